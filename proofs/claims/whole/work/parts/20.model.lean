noncomputable def f_X12_in (x0 : Int64) (x2 : Int64) (x4 : Int64) : Int32 :=
  if (lg_cmp x0 x2) < 0 then
    (0 : Int32)
  else
    if 0 < (lg_cmp x0 x4) then
      (0 : Int32)
    else
      (1 : Int32)
set_option maxHeartbeats 4000000 in
set_option maxRecDepth 100000 in
theorem c_X12_in (l : Launch) (D : va_G) (dA : Nat → ClassId) (zz : (Nat → Nat) × (Nat → Nat)) (bs : Nat) (mm : Mm) (x0 : Int64) (x2 : Int64) (x4 : Int64) (out : Int32) (hf : f_X12_in x0 x2 x4 = out) : Mw l D dA zz bs LY yX12_in cX12_in 6 (some .boolean) 0 0 [.long x0, .long x2, .long x4] mm (some (.int out)) mm := by
  refine Mw.of (own := RX12) (by decide) rfl (Nat.le_of_ble_eq_true rfl) ?_
  intro p e s m args below meth c X hr0 hP hS ls hl
  have hx := X.1
  have hb := X.2.1
  obtain ⟨H, hH⟩ : ∃ z : Heap, z = s.heap := ⟨_, rfl⟩
  obtain ⟨locs, hL⟩ : ∃ z : List Loc, z = [] := ⟨_, rfl⟩
  rw [← hH, ← hL]
  have hS : va_S (Aq bs) s.heap H locs := by rw [hH, hL]; exact hS
  have hP : Wd D dA bs LY mm H := by rw [hH]; exact hP
  have hl : lv_has ls 6 [(0, .long x0), (2, .long x2), (4, .long x4)] := hl
  unfold f_X12_in at hf
  refine lv_lload_n hx hb dX12_in_0 rfl (lv_at hl 0 rfl) ?_
  refine lv_lload_n hx hb dX12_in_1 rfl (lv_at hl 1 rfl) ?_
  refine W.lcmp hx hb dX12_in_2 ?_
  refine lv_if_lt (tgt := 17) hx hb dX12_in_3 (by decide) (fun c_1 => ?_) (fun c_1 => ?_)
  · have hf := itT hf c_1
    refine lv_iconst (v := 0) hx hb dX12_in_17 (by decide) ?_
    subst hf
    exact wd_zret X hP hS hr0 (by decide) dX12_in_18 ⟨rfl, rfl⟩
  · have hf := itF hf c_1
    refine lv_lload_n hx hb dX12_in_6 rfl (lv_at hl 0 rfl) ?_
    refine lv_lload hx hb dX12_in_7 (lv_at hl 2 rfl) ?_
    refine W.lcmp hx hb dX12_in_9 ?_
    refine lv_if_gt (tgt := 17) hx hb dX12_in_10 (by decide) (fun c_2 => ?_) (fun c_2 => ?_)
    · have hf := itT hf c_2
      refine lv_iconst (v := 0) hx hb dX12_in_17 (by decide) ?_
      subst hf
      exact wd_zret X hP hS hr0 (by decide) dX12_in_18 ⟨rfl, rfl⟩
    · have hf := itF hf c_2
      refine lv_iconst (v := 1) hx hb dX12_in_13 (by decide) ?_
      refine lv_goto (tgt := 18) hx hb dX12_in_14 (by decide) ?_
      subst hf
      exact wd_zret X hP hS hr0 (by decide) dX12_in_18 ⟨rfl, rfl⟩

noncomputable def f_X12_bits_s4 (mm : Mm) (y0 : Int32) : (Int32 × Int32) → Option ((Int32 × Int32) ⊕ (Int32)) :=
  fun q => match q with
  | (y1, y2) =>
    if (16 : Int32) ≤ y2 then
      some (.inr y1)
    else
      vlet (y1 + ((y0 >>> (y2 &&& 31)) &&& (1 : Int32))) fun (x1_2 : Int32) => some (.inl (x1_2, (y2 + 1)))
noncomputable def f_X12_bits (mm : Mm) (x0 : Int32) : Option (Int32) :=
  bi1 (lp (f_X12_bits_s4 mm x0) ((0 : Int32), (0 : Int32))) fun w1_4 =>
    some w1_4
set_option maxHeartbeats 4000000 in
set_option maxRecDepth 100000 in
theorem c_X12_bits (l : Launch) (D : va_G) (dA : Nat → ClassId) (zz : (Nat → Nat) × (Nat → Nat)) (bs : Nat) (mm : Mm) (x0 : Int32) (out : Int32) (hf : f_X12_bits mm x0 = some out) : Mw l D dA zz bs LY yX12_bits cX12_bits 3 (some .int) 0 0 [.int x0] mm (some (.int out)) mm := by
  refine Mw.of (own := RX12) (by decide) rfl (Nat.le_of_ble_eq_true rfl) ?_
  intro p e s m args below meth c X hr0 hP hS ls hl
  have hx := X.1
  have hb := X.2.1
  obtain ⟨H, hH⟩ : ∃ z : Heap, z = s.heap := ⟨_, rfl⟩
  obtain ⟨locs, hL⟩ : ∃ z : List Loc, z = [] := ⟨_, rfl⟩
  rw [← hH, ← hL]
  have hS : va_S (Aq bs) s.heap H locs := by rw [hH, hL]; exact hS
  have hP : Wd D dA bs LY mm H := by rw [hH]; exact hP
  have hl : lv_has ls 3 [(0, .int x0)] := hl
  unfold f_X12_bits at hf
  refine lv_iconst (v := 0) hx hb dX12_bits_0 (by decide) ?_
  refine lv_istore_n (lv' := [(1, .int (0 : Int32)), (0, .int x0)]) hx hb dX12_bits_1 rfl hl (by decide) rfl (fun ls hl => ?_)
  refine lv_iconst (v := 0) hx hb dX12_bits_2 (by decide) ?_
  refine lv_istore_n (lv' := [(2, .int (0 : Int32)), (1, .int (0 : Int32)), (0, .int x0)]) hx hb dX12_bits_3 rfl hl (by decide) rfl (fun ls hl => ?_)
  obtain ⟨q_5, hlp_6, hf⟩ := bi1S hf
  refine lp_walk (Wh := (fun z => match z with | (y1L_3, y2L_3) => ∀ (H : Heap) (locs : List Loc) (ls : Array Slot), Wd D dA bs LY mm H → va_S (Aq bs) s.heap H locs → lv_has ls 3 [(0, .int x0), (1, .int y1L_3), (2, .int y2L_3)] → Wz p l e s m args below meth c D dA bs (some (.int out)) mm 0 0 H locs 4 ls [])) (Ph := (fun w1_4 => ∀ (H : Heap) (locs : List Loc) (ls : Array Slot), Wd D dA bs LY mm H → va_S (Aq bs) s.heap H locs → lv_has ls 3 [(1, .int w1_4)] → Wz p l e s m args below meth c D dA bs (some (.int out)) mm 0 0 H locs 24 ls [])) ?_ hlp_6 ?_ H locs ls hP hS (lv_sub hl [2, 1, 0] rfl)
  · intro z o hf hB hE
    obtain ⟨y1L_3, y2L_3⟩ := z
    intro H locs ls hP hS hl
    have hf : f_X12_bits_s4 mm x0 (y1L_3, y2L_3) = some o := hf
    unfold f_X12_bits_s4 at hf
    dsimp only at hf
    refine lv_iload_n hx hb dX12_bits_4 rfl (lv_at hl 2 rfl) ?_
    refine lv_bipush (v := 16) hx hb dX12_bits_5 (by decide) ?_
    refine lv_icmp_ge (tgt := 24) hx hb dX12_bits_7 (by decide) (fun c_1 => ?_) (fun c_1 => ?_)
    · have hf := itT hf c_1
      obtain rfl := Option.some.inj hf
      exact hE _ rfl H locs ls hP hS (lv_sub hl [1] rfl)
    · have hf := itF hf c_1
      refine lv_iload_n hx hb dX12_bits_10 rfl (lv_at hl 1 rfl) ?_
      refine lv_iload_n hx hb dX12_bits_11 rfl (lv_at hl 0 rfl) ?_
      refine lv_iload_n hx hb dX12_bits_12 rfl (lv_at hl 2 rfl) ?_
      refine lv_ishr hx hb dX12_bits_13 ?_
      refine lv_iconst (v := 1) hx hb dX12_bits_14 (by decide) ?_
      refine lv_iand hx hb dX12_bits_15 ?_
      refine lv_iadd hx hb dX12_bits_16 ?_
      refine lv_topi (fun x1_2 ex1_2 => ?_)
      have hf := vl hf ex1_2
      refine lv_istore_n (lv' := [(1, .int x1_2), (0, .int x0), (2, .int y2L_3)]) hx hb dX12_bits_17 rfl hl (by decide) rfl (fun ls hl => ?_)
      refine lv_iinc (v := (y2L_3 + 1)) (lv' := [(2, .int (y2L_3 + 1)), (1, .int x1_2), (0, .int x0)]) hx hb dX12_bits_18 hl (k := 2) rfl rfl (by decide) rfl (fun ls hl => ?_)
      refine lv_goto (tgt := 4) hx hb dX12_bits_21 (by decide) ?_
      obtain rfl := Option.some.inj hf
      exact hB _ rfl H locs ls hP hS (lv_sub hl [2, 1, 0] rfl)
  · obtain ⟨w1_4, e_w1_4⟩ : ∃ z, z = q_5 := ⟨_, rfl⟩
    subst e_w1_4
    intro H locs ls hP hS hl
    refine lv_iload_n hx hb dX12_bits_24 rfl (lv_at hl 0 rfl) ?_
    obtain rfl := Option.some.inj hf
    exact wd_iret X hP hS hr0 dX12_bits_25 ⟨rfl, rfl⟩

noncomputable def f_X12_has (x0 : Int32) (x1 : Int32) : Int32 :=
  if ((x0 >>> (x1 &&& 31)) &&& (1 : Int32)) = (1 : Int32) then
    (1 : Int32)
  else
    (0 : Int32)
set_option maxHeartbeats 4000000 in
set_option maxRecDepth 100000 in
theorem c_X12_has (l : Launch) (D : va_G) (dA : Nat → ClassId) (zz : (Nat → Nat) × (Nat → Nat)) (bs : Nat) (mm : Mm) (x0 : Int32) (x1 : Int32) (out : Int32) (hf : f_X12_has x0 x1 = out) : Mw l D dA zz bs LY yX12_has cX12_has 2 (some .boolean) 0 0 [.int x0, .int x1] mm (some (.int out)) mm := by
  refine Mw.of (own := RX12) (by decide) rfl (Nat.le_of_ble_eq_true rfl) ?_
  intro p e s m args below meth c X hr0 hP hS ls hl
  have hx := X.1
  have hb := X.2.1
  obtain ⟨H, hH⟩ : ∃ z : Heap, z = s.heap := ⟨_, rfl⟩
  obtain ⟨locs, hL⟩ : ∃ z : List Loc, z = [] := ⟨_, rfl⟩
  rw [← hH, ← hL]
  have hS : va_S (Aq bs) s.heap H locs := by rw [hH, hL]; exact hS
  have hP : Wd D dA bs LY mm H := by rw [hH]; exact hP
  have hl : lv_has ls 2 [(0, .int x0), (1, .int x1)] := hl
  unfold f_X12_has at hf
  refine lv_iload_n hx hb dX12_has_0 rfl (lv_at hl 0 rfl) ?_
  refine lv_iload_n hx hb dX12_has_1 rfl (lv_at hl 1 rfl) ?_
  refine lv_ishr hx hb dX12_has_2 ?_
  refine lv_iconst (v := 1) hx hb dX12_has_3 (by decide) ?_
  refine lv_iand hx hb dX12_has_4 ?_
  refine lv_iconst (v := 1) hx hb dX12_has_5 (by decide) ?_
  refine lv_icmp_ne (tgt := 13) hx hb dX12_has_6 (by decide) (fun c_1 => ?_) (fun c_1 => ?_)
  · have hf := itF hf c_1
    refine lv_iconst (v := 0) hx hb dX12_has_13 (by decide) ?_
    subst hf
    exact wd_zret X hP hS hr0 (by decide) dX12_has_14 ⟨rfl, rfl⟩
  · have hf := itT hf c_1
    refine lv_iconst (v := 1) hx hb dX12_has_9 (by decide) ?_
    refine lv_goto (tgt := 14) hx hb dX12_has_10 (by decide) ?_
    subst hf
    exact wd_zret X hP hS hr0 (by decide) dX12_has_14 ⟨rfl, rfl⟩

noncomputable def f_X12_isRiver (mm : Mm) : Int32 :=
  if (mm.1 1089 0) ≤ 0 then
    (0 : Int32)
  else
    (1 : Int32)
set_option maxHeartbeats 4000000 in
set_option maxRecDepth 100000 in
theorem c_X12_isRiver (l : Launch) (D : va_G) (dA : Nat → ClassId) (zz : (Nat → Nat) × (Nat → Nat)) (bs : Nat) (mm : Mm) (out : Int32) (hf : f_X12_isRiver mm = out) : Mw l D dA zz bs LY yX12_isRiver cX12_isRiver 1 (some .boolean) 0 0 [.ref (bs + 1088)] mm (some (.int out)) mm := by
  refine Mw.of (own := RX12) (by decide) rfl (Nat.le_of_ble_eq_true rfl) ?_
  intro p e s m args below meth c X hr0 hP hS ls hl
  have hx := X.1
  have hb := X.2.1
  obtain ⟨H, hH⟩ : ∃ z : Heap, z = s.heap := ⟨_, rfl⟩
  obtain ⟨locs, hL⟩ : ∃ z : List Loc, z = [] := ⟨_, rfl⟩
  rw [← hH, ← hL]
  have hS : va_S (Aq bs) s.heap H locs := by rw [hH, hL]; exact hS
  have hP : Wd D dA bs LY mm H := by rw [hH]; exact hP
  have hl : lv_has ls 1 [(0, .ref (bs + 1088))] := hl
  unfold f_X12_isRiver at hf
  refine lv_aload_n hx hb dX12_isRiver_0 rfl (lv_at hl 0 rfl) ?_
  refine wd_getR (q := 1089) X hP L1088 fl_X12_9 rfl dX12_isRiver_1 ?_
  refine lv_iconst (v := 0) hx hb dX12_isRiver_4 (by decide) ?_
  refine wd_ialdK (k := 0) X hP L1089 (by decide) (by decide) dX12_isRiver_5 ?_
  refine lv_if_le (tgt := 13) hx hb dX12_isRiver_6 (by decide) (fun c_1 => ?_) (fun c_1 => ?_)
  · have hf := itT hf c_1
    refine lv_iconst (v := 0) hx hb dX12_isRiver_13 (by decide) ?_
    subst hf
    exact wd_zret X hP hS hr0 (by decide) dX12_isRiver_14 ⟨rfl, rfl⟩
  · have hf := itF hf c_1
    refine lv_iconst (v := 1) hx hb dX12_isRiver_9 (by decide) ?_
    refine lv_goto (tgt := 14) hx hb dX12_isRiver_10 (by decide) ?_
    subst hf
    exact wd_zret X hP hS hr0 (by decide) dX12_isRiver_14 ⟨rfl, rfl⟩

noncomputable def f_X12_isOwner (mm : Mm) (x1 : Int32) : Option (Int32) :=
  if ¬ (f_X12_in (x1.toInt64) (0 : Int64) (((mm.1 1089 2) - (1 : Int32)).toInt64)) = 0 ∧ ¬ (f_X12_in (x1.toInt64) (0 : Int64) (((mm.1 1089 2) - (1 : Int32)).toInt64)) = 1 then none else
    some (f_X12_in (x1.toInt64) (0 : Int64) (((mm.1 1089 2) - (1 : Int32)).toInt64))
set_option maxHeartbeats 4000000 in
set_option maxRecDepth 100000 in
theorem c_X12_isOwner (l : Launch) (D : va_G) (dA : Nat → ClassId) (zz : (Nat → Nat) × (Nat → Nat)) (bs : Nat) (mm : Mm) (x1 : Int32) (out : Int32) (hf : f_X12_isOwner mm x1 = some out) : Mw l D dA zz bs LY yX12_isOwner cX12_isOwner 2 (some .boolean) 1 25 [.ref (bs + 1088), .int x1] mm (some (.int out)) mm := by
  refine Mw.of (own := RX12) (by decide) rfl (Nat.le_of_ble_eq_true rfl) ?_
  intro p e s m args below meth c X hr0 hP hS ls hl
  have hx := X.1
  have hb := X.2.1
  obtain ⟨H, hH⟩ : ∃ z : Heap, z = s.heap := ⟨_, rfl⟩
  obtain ⟨locs, hL⟩ : ∃ z : List Loc, z = [] := ⟨_, rfl⟩
  rw [← hH, ← hL]
  have hS : va_S (Aq bs) s.heap H locs := by rw [hH, hL]; exact hS
  have hP : Wd D dA bs LY mm H := by rw [hH]; exact hP
  have hl : lv_has ls 2 [(0, .ref (bs + 1088)), (1, .int x1)] := hl
  unfold f_X12_isOwner at hf
  refine lv_iload_n hx hb dX12_isOwner_0 rfl (lv_at hl 1 rfl) ?_
  refine lv_i2l hx hb dX12_isOwner_1 rfl ?_
  refine lv_lconst (v := 0) hx hb dX12_isOwner_2 (by decide) ?_
  refine lv_aload_n hx hb dX12_isOwner_3 rfl (lv_at hl 0 rfl) ?_
  refine wd_getR (q := 1089) X hP L1088 fl_X12_9 rfl dX12_isOwner_4 ?_
  refine lv_iconst (v := 2) hx hb dX12_isOwner_7 (by decide) ?_
  refine wd_ialdK (k := 2) X hP L1089 (by decide) (by decide) dX12_isOwner_8 ?_
  refine lv_iconst (v := 1) hx hb dX12_isOwner_9 (by decide) ?_
  refine lv_isub hx hb dX12_isOwner_10 ?_
  refine lv_i2l hx hb dX12_isOwner_11 rfl ?_
  refine wd_cs X hP hS ml_X12_176 (c_X12_in l D dA zz bs mm (x1.toInt64) (0 : Int64) (((mm.1 1089 2) - (1 : Int32)).toInt64) (f_X12_in (x1.toInt64) (0 : Int64) (((mm.1 1089 2) - (1 : Int32)).toInt64)) rfl) rfl ⟨Nat.le_of_ble_eq_true rfl, Nat.le_of_ble_eq_true rfl⟩ hl.1 rfl (rest := []) (Nat.le_of_ble_eq_true rfl) ⟨Nat.zero_le _, Nat.zero_le _⟩ dX12_isOwner_12 (fun H locs hP hS => ?_)
  refine W.eq (g2 := F0 m 15 ls [.int (f_X12_in (x1.toInt64) (0 : Int64) (((mm.1 1089 2) - (1 : Int32)).toInt64))]) rfl ?_
  have g_1 := gdN hf
  have hf := gdK hf
  obtain rfl := Option.some.inj hf
  exact wd_zret X hP hS hr0 g_1 dX12_isOwner_15 ⟨rfl, rfl⟩

noncomputable def f_X12_isThing (mm : Mm) (x1 : Int32) : Option (Int32) :=
  if ¬ (f_X12_in (x1.toInt64) (0 : Int64) (((mm.1 1089 3) - (1 : Int32)).toInt64)) = 0 ∧ ¬ (f_X12_in (x1.toInt64) (0 : Int64) (((mm.1 1089 3) - (1 : Int32)).toInt64)) = 1 then none else
    some (f_X12_in (x1.toInt64) (0 : Int64) (((mm.1 1089 3) - (1 : Int32)).toInt64))
set_option maxHeartbeats 4000000 in
set_option maxRecDepth 100000 in
theorem c_X12_isThing (l : Launch) (D : va_G) (dA : Nat → ClassId) (zz : (Nat → Nat) × (Nat → Nat)) (bs : Nat) (mm : Mm) (x1 : Int32) (out : Int32) (hf : f_X12_isThing mm x1 = some out) : Mw l D dA zz bs LY yX12_isThing cX12_isThing 2 (some .boolean) 1 25 [.ref (bs + 1088), .int x1] mm (some (.int out)) mm := by
  refine Mw.of (own := RX12) (by decide) rfl (Nat.le_of_ble_eq_true rfl) ?_
  intro p e s m args below meth c X hr0 hP hS ls hl
  have hx := X.1
  have hb := X.2.1
  obtain ⟨H, hH⟩ : ∃ z : Heap, z = s.heap := ⟨_, rfl⟩
  obtain ⟨locs, hL⟩ : ∃ z : List Loc, z = [] := ⟨_, rfl⟩
  rw [← hH, ← hL]
  have hS : va_S (Aq bs) s.heap H locs := by rw [hH, hL]; exact hS
  have hP : Wd D dA bs LY mm H := by rw [hH]; exact hP
  have hl : lv_has ls 2 [(0, .ref (bs + 1088)), (1, .int x1)] := hl
  unfold f_X12_isThing at hf
  refine lv_iload_n hx hb dX12_isThing_0 rfl (lv_at hl 1 rfl) ?_
  refine lv_i2l hx hb dX12_isThing_1 rfl ?_
  refine lv_lconst (v := 0) hx hb dX12_isThing_2 (by decide) ?_
  refine lv_aload_n hx hb dX12_isThing_3 rfl (lv_at hl 0 rfl) ?_
  refine wd_getR (q := 1089) X hP L1088 fl_X12_9 rfl dX12_isThing_4 ?_
  refine lv_iconst (v := 3) hx hb dX12_isThing_7 (by decide) ?_
  refine wd_ialdK (k := 3) X hP L1089 (by decide) (by decide) dX12_isThing_8 ?_
  refine lv_iconst (v := 1) hx hb dX12_isThing_9 (by decide) ?_
  refine lv_isub hx hb dX12_isThing_10 ?_
  refine lv_i2l hx hb dX12_isThing_11 rfl ?_
  refine wd_cs X hP hS ml_X12_176 (c_X12_in l D dA zz bs mm (x1.toInt64) (0 : Int64) (((mm.1 1089 3) - (1 : Int32)).toInt64) (f_X12_in (x1.toInt64) (0 : Int64) (((mm.1 1089 3) - (1 : Int32)).toInt64)) rfl) rfl ⟨Nat.le_of_ble_eq_true rfl, Nat.le_of_ble_eq_true rfl⟩ hl.1 rfl (rest := []) (Nat.le_of_ble_eq_true rfl) ⟨Nat.zero_le _, Nat.zero_le _⟩ dX12_isThing_12 (fun H locs hP hS => ?_)
  refine W.eq (g2 := F0 m 15 ls [.int (f_X12_in (x1.toInt64) (0 : Int64) (((mm.1 1089 3) - (1 : Int32)).toInt64))]) rfl ?_
  have g_1 := gdN hf
  have hf := gdK hf
  obtain rfl := Option.some.inj hf
  exact wd_zret X hP hS hr0 g_1 dX12_isThing_15 ⟨rfl, rfl⟩

noncomputable def f_X12_isAfloat (mm : Mm) (x1 : Int32) : Option (Int32) :=
  bi1 (f_X12_isThing mm x1) fun r_2 =>
    if r_2 = 0 then
      some (0 : Int32)
    else
      if x1 < 0 ∨ 8 ≤ x1.toNatClampNeg then none else
        if (mm.1 1097 x1.toNatClampNeg) = 0 then
          some (1 : Int32)
        else
          some (0 : Int32)
set_option maxHeartbeats 4000000 in
set_option maxRecDepth 100000 in
theorem c_X12_isAfloat (l : Launch) (D : va_G) (dA : Nat → ClassId) (zz : (Nat → Nat) × (Nat → Nat)) (bs : Nat) (mm : Mm) (x1 : Int32) (out : Int32) (hf : f_X12_isAfloat mm x1 = some out) : Mw l D dA zz bs LY yX12_isAfloat cX12_isAfloat 2 (some .boolean) 2 46 [.ref (bs + 1088), .int x1] mm (some (.int out)) mm := by
  refine Mw.of (own := RX12) (by decide) rfl (Nat.le_of_ble_eq_true rfl) ?_
  intro p e s m args below meth c X hr0 hP hS ls hl
  have hx := X.1
  have hb := X.2.1
  obtain ⟨H, hH⟩ : ∃ z : Heap, z = s.heap := ⟨_, rfl⟩
  obtain ⟨locs, hL⟩ : ∃ z : List Loc, z = [] := ⟨_, rfl⟩
  rw [← hH, ← hL]
  have hS : va_S (Aq bs) s.heap H locs := by rw [hH, hL]; exact hS
  have hP : Wd D dA bs LY mm H := by rw [hH]; exact hP
  have hl : lv_has ls 2 [(0, .ref (bs + 1088)), (1, .int x1)] := hl
  unfold f_X12_isAfloat at hf
  refine lv_aload_n hx hb dX12_isAfloat_0 rfl (lv_at hl 0 rfl) ?_
  refine lv_iload_n hx hb dX12_isAfloat_1 rfl (lv_at hl 1 rfl) ?_
  obtain ⟨r_2, hc_1, hf⟩ := bi1S hf
  refine wd_cv X hP hS L1088 ml_X12_180 ⟨_, _, rfl⟩ (c_X12_isThing l D dA zz bs mm x1 r_2 hc_1) rfl ⟨Nat.le_of_ble_eq_true rfl, Nat.le_of_ble_eq_true rfl⟩ hl.1 rfl (rest := []) (Nat.le_of_ble_eq_true rfl) ⟨Nat.zero_le _, Nat.zero_le _⟩ dX12_isAfloat_2 (fun H locs hP hS => ?_)
  refine W.eq (g2 := F0 m 5 ls [.int r_2]) rfl ?_
  refine lv_if_eq (tgt := 21) hx hb dX12_isAfloat_5 (by decide) (fun c_3 => ?_) (fun c_3 => ?_)
  · have hf := itT hf c_3
    refine lv_iconst (v := 0) hx hb dX12_isAfloat_21 (by decide) ?_
    obtain rfl := Option.some.inj hf
    exact wd_zret X hP hS hr0 (by decide) dX12_isAfloat_22 ⟨rfl, rfl⟩
  · have hf := itF hf c_3
    refine lv_aload_n hx hb dX12_isAfloat_8 rfl (lv_at hl 0 rfl) ?_
    refine wd_getR (q := 1097) X hP L1088 fl_X12_34 rfl dX12_isAfloat_9 ?_
    refine lv_iload_n hx hb dX12_isAfloat_12 rfl (lv_at hl 1 rfl) ?_
    have g_4 := gdN hf
    have hf := gdK hf
    refine wd_iald X hP L1097 g_4 dX12_isAfloat_13 ?_
    refine lv_if_ne (tgt := 21) hx hb dX12_isAfloat_14 (by decide) (fun c_5 => ?_) (fun c_5 => ?_)
    · have hf := itF hf c_5
      refine lv_iconst (v := 0) hx hb dX12_isAfloat_21 (by decide) ?_
      obtain rfl := Option.some.inj hf
      exact wd_zret X hP hS hr0 (by decide) dX12_isAfloat_22 ⟨rfl, rfl⟩
    · have hf := itT hf c_5
      refine lv_iconst (v := 1) hx hb dX12_isAfloat_17 (by decide) ?_
      refine lv_goto (tgt := 22) hx hb dX12_isAfloat_18 (by decide) ?_
      obtain rfl := Option.some.inj hf
      exact wd_zret X hP hS hr0 (by decide) dX12_isAfloat_22 ⟨rfl, rfl⟩

noncomputable def f_X12_isRope (mm : Mm) (x1 : Int32) : Option (Int32) :=
  if ¬ (f_X12_in (x1.toInt64) (0 : Int64) (((mm.1 1089 4) - (1 : Int32)).toInt64)) = 0 ∧ ¬ (f_X12_in (x1.toInt64) (0 : Int64) (((mm.1 1089 4) - (1 : Int32)).toInt64)) = 1 then none else
    some (f_X12_in (x1.toInt64) (0 : Int64) (((mm.1 1089 4) - (1 : Int32)).toInt64))
set_option maxHeartbeats 4000000 in
set_option maxRecDepth 100000 in
theorem c_X12_isRope (l : Launch) (D : va_G) (dA : Nat → ClassId) (zz : (Nat → Nat) × (Nat → Nat)) (bs : Nat) (mm : Mm) (x1 : Int32) (out : Int32) (hf : f_X12_isRope mm x1 = some out) : Mw l D dA zz bs LY yX12_isRope cX12_isRope 2 (some .boolean) 1 25 [.ref (bs + 1088), .int x1] mm (some (.int out)) mm := by
  refine Mw.of (own := RX12) (by decide) rfl (Nat.le_of_ble_eq_true rfl) ?_
  intro p e s m args below meth c X hr0 hP hS ls hl
  have hx := X.1
  have hb := X.2.1
  obtain ⟨H, hH⟩ : ∃ z : Heap, z = s.heap := ⟨_, rfl⟩
  obtain ⟨locs, hL⟩ : ∃ z : List Loc, z = [] := ⟨_, rfl⟩
  rw [← hH, ← hL]
  have hS : va_S (Aq bs) s.heap H locs := by rw [hH, hL]; exact hS
  have hP : Wd D dA bs LY mm H := by rw [hH]; exact hP
  have hl : lv_has ls 2 [(0, .ref (bs + 1088)), (1, .int x1)] := hl
  unfold f_X12_isRope at hf
  refine lv_iload_n hx hb dX12_isRope_0 rfl (lv_at hl 1 rfl) ?_
  refine lv_i2l hx hb dX12_isRope_1 rfl ?_
  refine lv_lconst (v := 0) hx hb dX12_isRope_2 (by decide) ?_
  refine lv_aload_n hx hb dX12_isRope_3 rfl (lv_at hl 0 rfl) ?_
  refine wd_getR (q := 1089) X hP L1088 fl_X12_9 rfl dX12_isRope_4 ?_
  refine lv_iconst (v := 4) hx hb dX12_isRope_7 (by decide) ?_
  refine wd_ialdK (k := 4) X hP L1089 (by decide) (by decide) dX12_isRope_8 ?_
  refine lv_iconst (v := 1) hx hb dX12_isRope_9 (by decide) ?_
  refine lv_isub hx hb dX12_isRope_10 ?_
  refine lv_i2l hx hb dX12_isRope_11 rfl ?_
  refine wd_cs X hP hS ml_X12_176 (c_X12_in l D dA zz bs mm (x1.toInt64) (0 : Int64) (((mm.1 1089 4) - (1 : Int32)).toInt64) (f_X12_in (x1.toInt64) (0 : Int64) (((mm.1 1089 4) - (1 : Int32)).toInt64)) rfl) rfl ⟨Nat.le_of_ble_eq_true rfl, Nat.le_of_ble_eq_true rfl⟩ hl.1 rfl (rest := []) (Nat.le_of_ble_eq_true rfl) ⟨Nat.zero_le _, Nat.zero_le _⟩ dX12_isRope_12 (fun H locs hP hS => ?_)
  refine W.eq (g2 := F0 m 15 ls [.int (f_X12_in (x1.toInt64) (0 : Int64) (((mm.1 1089 4) - (1 : Int32)).toInt64))]) rfl ?_
  have g_1 := gdN hf
  have hf := gdK hf
  obtain rfl := Option.some.inj hf
  exact wd_zret X hP hS hr0 g_1 dX12_isRope_15 ⟨rfl, rfl⟩

noncomputable def f_X12_milesLeft (mm : Mm) : Int32 :=
  ((mm.1 1089 0) - (mm.1 1089 6))
set_option maxHeartbeats 4000000 in
set_option maxRecDepth 100000 in
theorem c_X12_milesLeft (l : Launch) (D : va_G) (dA : Nat → ClassId) (zz : (Nat → Nat) × (Nat → Nat)) (bs : Nat) (mm : Mm) (out : Int32) (hf : f_X12_milesLeft mm = out) : Mw l D dA zz bs LY yX12_milesLeft cX12_milesLeft 1 (some .int) 0 0 [.ref (bs + 1088)] mm (some (.int out)) mm := by
  refine Mw.of (own := RX12) (by decide) rfl (Nat.le_of_ble_eq_true rfl) ?_
  intro p e s m args below meth c X hr0 hP hS ls hl
  have hx := X.1
  have hb := X.2.1
  obtain ⟨H, hH⟩ : ∃ z : Heap, z = s.heap := ⟨_, rfl⟩
  obtain ⟨locs, hL⟩ : ∃ z : List Loc, z = [] := ⟨_, rfl⟩
  rw [← hH, ← hL]
  have hS : va_S (Aq bs) s.heap H locs := by rw [hH, hL]; exact hS
  have hP : Wd D dA bs LY mm H := by rw [hH]; exact hP
  have hl : lv_has ls 1 [(0, .ref (bs + 1088))] := hl
  unfold f_X12_milesLeft at hf
  refine lv_aload_n hx hb dX12_milesLeft_0 rfl (lv_at hl 0 rfl) ?_
  refine wd_getR (q := 1089) X hP L1088 fl_X12_9 rfl dX12_milesLeft_1 ?_
  refine lv_iconst (v := 0) hx hb dX12_milesLeft_4 (by decide) ?_
  refine wd_ialdK (k := 0) X hP L1089 (by decide) (by decide) dX12_milesLeft_5 ?_
  refine lv_aload_n hx hb dX12_milesLeft_6 rfl (lv_at hl 0 rfl) ?_
  refine wd_getR (q := 1089) X hP L1088 fl_X12_9 rfl dX12_milesLeft_7 ?_
  refine lv_bipush (v := 6) hx hb dX12_milesLeft_10 (by decide) ?_
  refine wd_ialdK (k := 6) X hP L1089 (by decide) (by decide) dX12_milesLeft_12 ?_
  refine lv_isub hx hb dX12_milesLeft_13 ?_
  subst hf
  exact wd_iret X hP hS hr0 dX12_milesLeft_14 ⟨rfl, rfl⟩

noncomputable def f_X12_put_s3 (y1 : Int32) : (Int32 × Mm) → Option ((Int32 × Mm) ⊕ (Mm)) :=
  fun q => match q with
  | (y2, mm) =>
    if y2 < 0 then
      some (.inr mm)
    else
      if (mm.1 1088 31) < 0 ∨ 400 ≤ (mm.1 1088 31).toNatClampNeg then none else
        vlet (wI mm 1119 (mm.1 1088 31).toNatClampNeg (vp_nar .byte ((y1 >>> (y2 &&& 31)).toInt8.toInt32))) fun mm_2 =>
          vlet (wI mm_2 1088 31 ((mm_2.1 1088 31) + (1 : Int32))) fun mm_4 => some (.inl ((y2 + (-8)), mm_4))
noncomputable def f_X12_put (mm : Mm) (x1 : Int32) : Option (Mm) :=
  bi1 (lp (f_X12_put_s3 x1) ((24 : Int32), mm)) fun mm_6 =>
    some mm_6
set_option maxHeartbeats 4000000 in
set_option maxRecDepth 100000 in
theorem c_X12_put (l : Launch) (D : va_G) (dA : Nat → ClassId) (zz : (Nat → Nat) × (Nat → Nat)) (bs : Nat) (mm : Mm) (x1 : Int32) (m1 : Mm) (hf : f_X12_put mm x1 = some m1) : Mw l D dA zz bs LY yX12_put cX12_put 3 none 0 0 [.ref (bs + 1088), .int x1] mm none m1 := by
  refine Mw.of (own := RX12) (by decide) rfl (Nat.le_of_ble_eq_true rfl) ?_
  intro p e s m args below meth c X hr0 hP hS ls hl
  have hx := X.1
  have hb := X.2.1
  obtain ⟨H, hH⟩ : ∃ z : Heap, z = s.heap := ⟨_, rfl⟩
  obtain ⟨locs, hL⟩ : ∃ z : List Loc, z = [] := ⟨_, rfl⟩
  rw [← hH, ← hL]
  have hS : va_S (Aq bs) s.heap H locs := by rw [hH, hL]; exact hS
  have hP : Wd D dA bs LY mm H := by rw [hH]; exact hP
  have hl : lv_has ls 3 [(0, .ref (bs + 1088)), (1, .int x1)] := hl
  unfold f_X12_put at hf
  refine lv_bipush (v := 24) hx hb dX12_put_0 (by decide) ?_
  refine lv_istore_n (lv' := [(2, .int (24 : Int32)), (0, .ref (bs + 1088)), (1, .int x1)]) hx hb dX12_put_2 rfl hl (by decide) rfl (fun ls hl => ?_)
  obtain ⟨q_7, hlp_8, hf⟩ := bi1S hf
  refine lp_walk (Wh := (fun z => match z with | (y2L_5, mmL_5) => ∀ (H : Heap) (locs : List Loc) (ls : Array Slot), Wd D dA bs LY mmL_5 H → va_S (Aq bs) s.heap H locs → lv_has ls 3 [(0, .ref (bs + 1088)), (1, .int x1), (2, .int y2L_5)] → Wz p l e s m args below meth c D dA bs none m1 0 0 H locs 3 ls [])) (Ph := (fun mm_6 => ∀ (H : Heap) (locs : List Loc) (ls : Array Slot), Wd D dA bs LY mm_6 H → va_S (Aq bs) s.heap H locs → lv_has ls 3 [] → Wz p l e s m args below meth c D dA bs none m1 0 0 H locs 36 ls [])) ?_ hlp_8 ?_ H locs ls hP hS (lv_sub hl [1, 2, 0] rfl)
  · intro z o hf hB hE
    obtain ⟨y2L_5, mmL_5⟩ := z
    intro H locs ls hP hS hl
    have hf : f_X12_put_s3 x1 (y2L_5, mmL_5) = some o := hf
    unfold f_X12_put_s3 at hf
    dsimp only at hf
    refine lv_iload_n hx hb dX12_put_3 rfl (lv_at hl 2 rfl) ?_
    refine lv_if_lt (tgt := 36) hx hb dX12_put_4 (by decide) (fun c_1 => ?_) (fun c_1 => ?_)
    · have hf := itT hf c_1
      obtain rfl := Option.some.inj hf
      exact hE _ rfl H locs ls hP hS (lv_sub hl [] rfl)
    · have hf := itF hf c_1
      refine lv_aload_n hx hb dX12_put_7 rfl (lv_at hl 0 rfl) ?_
      refine wd_getR (q := 1119) X hP L1088 fl_X12_104 rfl dX12_put_8 ?_
      refine lv_aload_n hx hb dX12_put_11 rfl (lv_at hl 0 rfl) ?_
      refine wd_getI X hP L1088 fl_X12_184 rfl dX12_put_12 ?_
      refine lv_iload_n hx hb dX12_put_15 rfl (lv_at hl 1 rfl) ?_
      refine lv_iload_n hx hb dX12_put_16 rfl (lv_at hl 2 rfl) ?_
      refine lv_ishr hx hb dX12_put_17 ?_
      refine lv_i2b hx hb dX12_put_18 rfl ?_
      have g_3 := gdN hf
      have hf := gdK hf
      refine wd_bast X hP hS L1119 g_3 dX12_put_19 (fun H locs mm_2 emm_2 hP hS => ?_)
      have hf := vl hf emm_2
      refine lv_aload_n hx hb dX12_put_20 rfl (lv_at hl 0 rfl) ?_
      refine lv_dup hx hb dX12_put_21 rfl ?_
      refine wd_getI X hP L1088 fl_X12_184 rfl dX12_put_22 ?_
      refine lv_iconst (v := 1) hx hb dX12_put_25 (by decide) ?_
      refine lv_iadd hx hb dX12_put_26 ?_
      refine wd_putI X hP hS L1088 fp_X12_184 rfl dX12_put_27 (fun H locs mm_4 emm_4 hP hS => ?_)
      have hf := vl hf emm_4
      refine lv_iinc (v := (y2L_5 + (-8))) (lv' := [(2, .int (y2L_5 + (-8))), (0, .ref (bs + 1088)), (1, .int x1)]) hx hb dX12_put_30 hl (k := 2) rfl rfl (by decide) rfl (fun ls hl => ?_)
      refine lv_goto (tgt := 3) hx hb dX12_put_33 (by decide) ?_
      obtain rfl := Option.some.inj hf
      exact hB _ rfl H locs ls hP hS (lv_sub hl [1, 2, 0] rfl)
  · obtain ⟨mm_6, e_mm_6⟩ : ∃ z, z = q_7 := ⟨_, rfl⟩
    subst e_mm_6
    intro H locs ls hP hS hl
    obtain rfl := Option.some.inj hf
    exact wd_vret X hP hS hr0 dX12_put_36 ⟨rfl, rfl⟩

noncomputable def f_X12_feed (mm : Mm) (x1 : Int32) (x2 : Int32) (x3 : Int32) (x4 : Int32) (x5 : Int32) : Option (Int32 × Mm) :=
  if ((mm.1 1088 31) + (20 : Int32)) ≤ (400 : Int32) then
    bi1 (f_X12_put mm x1) fun mm_2 =>
      bi1 (f_X12_put mm_2 x2) fun mm_4 =>
        bi1 (f_X12_put mm_4 x3) fun mm_6 =>
          bi1 (f_X12_put mm_6 x4) fun mm_8 =>
            bi1 (f_X12_put mm_8 x5) fun mm_10 => some ((mm_10.1 1088 31), mm_10)
  else
    some ((-1 : Int32), mm)
set_option maxHeartbeats 4000000 in
set_option maxRecDepth 100000 in
theorem c_X12_feed (l : Launch) (D : va_G) (dA : Nat → ClassId) (zz : (Nat → Nat) × (Nat → Nat)) (bs : Nat) (mm : Mm) (x1 : Int32) (x2 : Int32) (x3 : Int32) (x4 : Int32) (x5 : Int32) (out : Int32) (m1 : Mm) (hf : f_X12_feed mm x1 x2 x3 x4 x5 = some (out, m1)) : Mw l D dA zz bs LY yX12_feed cX12_feed 6 (some .int) 1 22 [.ref (bs + 1088), .int x1, .int x2, .int x3, .int x4, .int x5] mm (some (.int out)) m1 := by
  refine Mw.of (own := RX12) (by decide) rfl (Nat.le_of_ble_eq_true rfl) ?_
  intro p e s m args below meth c X hr0 hP hS ls hl
  have hx := X.1
  have hb := X.2.1
  obtain ⟨H, hH⟩ : ∃ z : Heap, z = s.heap := ⟨_, rfl⟩
  obtain ⟨locs, hL⟩ : ∃ z : List Loc, z = [] := ⟨_, rfl⟩
  rw [← hH, ← hL]
  have hS : va_S (Aq bs) s.heap H locs := by rw [hH, hL]; exact hS
  have hP : Wd D dA bs LY mm H := by rw [hH]; exact hP
  have hl : lv_has ls 6 [(0, .ref (bs + 1088)), (1, .int x1), (2, .int x2), (3, .int x3), (4, .int x4), (5, .int x5)] := hl
  unfold f_X12_feed at hf
  refine lv_aload_n hx hb dX12_feed_0 rfl (lv_at hl 0 rfl) ?_
  refine wd_getI X hP L1088 fl_X12_184 rfl dX12_feed_1 ?_
  refine lv_bipush (v := 20) hx hb dX12_feed_4 (by decide) ?_
  refine lv_iadd hx hb dX12_feed_6 ?_
  refine lv_sipush (v := 400) hx hb dX12_feed_7 (by decide) ?_
  refine lv_icmp_le (tgt := 15) hx hb dX12_feed_10 (by decide) (fun c_1 => ?_) (fun c_1 => ?_)
  · have hf := itT hf c_1
    refine lv_aload_n hx hb dX12_feed_15 rfl (lv_at hl 0 rfl) ?_
    refine lv_iload_n hx hb dX12_feed_16 rfl (lv_at hl 1 rfl) ?_
    obtain ⟨mm_2, hc_3, hf⟩ := bi1S hf
    refine wd_cv X hP hS L1088 ml_X12_187 ⟨_, _, rfl⟩ (c_X12_put l D dA zz bs mm x1 mm_2 hc_3) rfl ⟨Nat.le_of_ble_eq_true rfl, Nat.le_of_ble_eq_true rfl⟩ hl.1 rfl (rest := []) (Nat.le_of_ble_eq_true rfl) ⟨Nat.zero_le _, Nat.zero_le _⟩ dX12_feed_17 (fun H locs hP hS => ?_)
    refine W.eq (g2 := F0 m 20 ls []) rfl ?_
    refine lv_aload_n hx hb dX12_feed_20 rfl (lv_at hl 0 rfl) ?_
    refine lv_iload_n hx hb dX12_feed_21 rfl (lv_at hl 2 rfl) ?_
    obtain ⟨mm_4, hc_5, hf⟩ := bi1S hf
    refine wd_cv X hP hS L1088 ml_X12_187 ⟨_, _, rfl⟩ (c_X12_put l D dA zz bs mm_2 x2 mm_4 hc_5) rfl ⟨Nat.le_of_ble_eq_true rfl, Nat.le_of_ble_eq_true rfl⟩ hl.1 rfl (rest := []) (Nat.le_of_ble_eq_true rfl) ⟨Nat.zero_le _, Nat.zero_le _⟩ dX12_feed_22 (fun H locs hP hS => ?_)
    refine W.eq (g2 := F0 m 25 ls []) rfl ?_
    refine lv_aload_n hx hb dX12_feed_25 rfl (lv_at hl 0 rfl) ?_
    refine lv_iload_n hx hb dX12_feed_26 rfl (lv_at hl 3 rfl) ?_
    obtain ⟨mm_6, hc_7, hf⟩ := bi1S hf
    refine wd_cv X hP hS L1088 ml_X12_187 ⟨_, _, rfl⟩ (c_X12_put l D dA zz bs mm_4 x3 mm_6 hc_7) rfl ⟨Nat.le_of_ble_eq_true rfl, Nat.le_of_ble_eq_true rfl⟩ hl.1 rfl (rest := []) (Nat.le_of_ble_eq_true rfl) ⟨Nat.zero_le _, Nat.zero_le _⟩ dX12_feed_27 (fun H locs hP hS => ?_)
    refine W.eq (g2 := F0 m 30 ls []) rfl ?_
    refine lv_aload_n hx hb dX12_feed_30 rfl (lv_at hl 0 rfl) ?_
    refine lv_iload hx hb dX12_feed_31 (lv_at hl 4 rfl) ?_
    obtain ⟨mm_8, hc_9, hf⟩ := bi1S hf
    refine wd_cv X hP hS L1088 ml_X12_187 ⟨_, _, rfl⟩ (c_X12_put l D dA zz bs mm_6 x4 mm_8 hc_9) rfl ⟨Nat.le_of_ble_eq_true rfl, Nat.le_of_ble_eq_true rfl⟩ hl.1 rfl (rest := []) (Nat.le_of_ble_eq_true rfl) ⟨Nat.zero_le _, Nat.zero_le _⟩ dX12_feed_33 (fun H locs hP hS => ?_)
    refine W.eq (g2 := F0 m 36 ls []) rfl ?_
    refine lv_aload_n hx hb dX12_feed_36 rfl (lv_at hl 0 rfl) ?_
    refine lv_iload hx hb dX12_feed_37 (lv_at hl 5 rfl) ?_
    obtain ⟨mm_10, hc_11, hf⟩ := bi1S hf
    refine wd_cv X hP hS L1088 ml_X12_187 ⟨_, _, rfl⟩ (c_X12_put l D dA zz bs mm_8 x5 mm_10 hc_11) rfl ⟨Nat.le_of_ble_eq_true rfl, Nat.le_of_ble_eq_true rfl⟩ hl.1 rfl (rest := []) (Nat.le_of_ble_eq_true rfl) ⟨Nat.zero_le _, Nat.zero_le _⟩ dX12_feed_39 (fun H locs hP hS => ?_)
    refine W.eq (g2 := F0 m 42 ls []) rfl ?_
    refine lv_aload_n hx hb dX12_feed_42 rfl (lv_at hl 0 rfl) ?_
    refine wd_getI X hP L1088 fl_X12_184 rfl dX12_feed_43 ?_
    obtain ⟨rfl, rfl⟩ := Prod.mk.inj (Option.some.inj hf)
    exact wd_iret X hP hS hr0 dX12_feed_46 ⟨rfl, rfl⟩
  · have hf := itF hf c_1
    refine lv_iconst (v := -1) hx hb dX12_feed_13 (by decide) ?_
    obtain ⟨rfl, rfl⟩ := Prod.mk.inj (Option.some.inj hf)
    exact wd_iret X hP hS hr0 dX12_feed_14 ⟨rfl, rfl⟩

noncomputable def f_X12_end (mm : Mm) (x1 : Int32) : Option (Int32 × Mm) :=
  if x1 < 0 then
    some ((-1 : Int32), mm)
  else
    if x1 ≤ (mm.1 1088 31) then
      vlet (wI mm 1088 31 x1) fun mm_3 => some (x1, mm_3)
    else
      some ((-1 : Int32), mm)
set_option maxHeartbeats 4000000 in
set_option maxRecDepth 100000 in
theorem c_X12_end (l : Launch) (D : va_G) (dA : Nat → ClassId) (zz : (Nat → Nat) × (Nat → Nat)) (bs : Nat) (mm : Mm) (x1 : Int32) (out : Int32) (m1 : Mm) (hf : f_X12_end mm x1 = some (out, m1)) : Mw l D dA zz bs LY yX12_end cX12_end 2 (some .int) 0 0 [.ref (bs + 1088), .int x1] mm (some (.int out)) m1 := by
  refine Mw.of (own := RX12) (by decide) rfl (Nat.le_of_ble_eq_true rfl) ?_
  intro p e s m args below meth c X hr0 hP hS ls hl
  have hx := X.1
  have hb := X.2.1
  obtain ⟨H, hH⟩ : ∃ z : Heap, z = s.heap := ⟨_, rfl⟩
  obtain ⟨locs, hL⟩ : ∃ z : List Loc, z = [] := ⟨_, rfl⟩
  rw [← hH, ← hL]
  have hS : va_S (Aq bs) s.heap H locs := by rw [hH, hL]; exact hS
  have hP : Wd D dA bs LY mm H := by rw [hH]; exact hP
  have hl : lv_has ls 2 [(0, .ref (bs + 1088)), (1, .int x1)] := hl
  unfold f_X12_end at hf
  refine lv_iload_n hx hb dX12_end_0 rfl (lv_at hl 1 rfl) ?_
  refine lv_if_lt (tgt := 12) hx hb dX12_end_1 (by decide) (fun c_1 => ?_) (fun c_1 => ?_)
  · have hf := itT hf c_1
    refine lv_iconst (v := -1) hx hb dX12_end_12 (by decide) ?_
    obtain ⟨rfl, rfl⟩ := Prod.mk.inj (Option.some.inj hf)
    exact wd_iret X hP hS hr0 dX12_end_13 ⟨rfl, rfl⟩
  · have hf := itF hf c_1
    refine lv_iload_n hx hb dX12_end_4 rfl (lv_at hl 1 rfl) ?_
    refine lv_aload_n hx hb dX12_end_5 rfl (lv_at hl 0 rfl) ?_
    refine wd_getI X hP L1088 fl_X12_184 rfl dX12_end_6 ?_
    refine lv_icmp_le (tgt := 14) hx hb dX12_end_9 (by decide) (fun c_2 => ?_) (fun c_2 => ?_)
    · have hf := itT hf c_2
      refine lv_aload_n hx hb dX12_end_14 rfl (lv_at hl 0 rfl) ?_
      refine lv_iload_n hx hb dX12_end_15 rfl (lv_at hl 1 rfl) ?_
      refine wd_putI X hP hS L1088 fp_X12_184 rfl dX12_end_16 (fun H locs mm_3 emm_3 hP hS => ?_)
      have hf := vl hf emm_3
      refine lv_iload_n hx hb dX12_end_19 rfl (lv_at hl 1 rfl) ?_
      obtain ⟨rfl, rfl⟩ := Prod.mk.inj (Option.some.inj hf)
      exact wd_iret X hP hS hr0 dX12_end_20 ⟨rfl, rfl⟩
    · have hf := itF hf c_2
      refine lv_iconst (v := -1) hx hb dX12_end_12 (by decide) ?_
      obtain ⟨rfl, rfl⟩ := Prod.mk.inj (Option.some.inj hf)
      exact wd_iret X hP hS hr0 dX12_end_13 ⟨rfl, rfl⟩

noncomputable def f_X12_wordOf (x0 : Int32) : Nat :=
  if x0 = 0 then
    12
  else if x0 = 1 then
    13
  else if x0 = 2 then
    14
  else if x0 = 3 then
    15
  else if x0 = 4 then
    16
  else if x0 = 5 then
    17
  else if x0 = 6 then
    18
  else if x0 = 7 then
    19
  else if x0 = 8 then
    20
  else if x0 = 9 then
    21
  else if x0 = 10 then
    22
  else
    23
set_option maxHeartbeats 4000000 in
set_option maxRecDepth 100000 in
theorem c_X12_wordOf (l : Launch) (D : va_G) (dA : Nat → ClassId) (zz : (Nat → Nat) × (Nat → Nat)) (bs : Nat) (mm : Mm) (x0 : Int32) (out : Nat) (hf : f_X12_wordOf x0 = out) : Mw l D dA zz bs LY yX12_wordOf cX12_wordOf 1 (some (.object "java/lang/String")) 0 0 [.int x0] mm (some (.ref (zz.1 out))) mm := by
  refine Mw.of (own := RX12) (by decide) rfl (Nat.le_of_ble_eq_true rfl) ?_
  intro p e s m args below meth c X hr0 hP hS ls hl
  have hx := X.1
  have hb := X.2.1
  obtain ⟨H, hH⟩ : ∃ z : Heap, z = s.heap := ⟨_, rfl⟩
  obtain ⟨locs, hL⟩ : ∃ z : List Loc, z = [] := ⟨_, rfl⟩
  rw [← hH, ← hL]
  have hS : va_S (Aq bs) s.heap H locs := by rw [hH, hL]; exact hS
  have hP : Wd D dA bs LY mm H := by rw [hH]; exact hP
  have hl : lv_has ls 1 [(0, .int x0)] := hl
  unfold f_X12_wordOf at hf
  refine lv_iload_n hx hb dX12_wordOf_0 rfl (lv_at hl 0 rfl) ?_
  by_cases c_1 : x0 = 0
  · have hf := itT hf c_1
    refine lv_tableIn (tgt := 60) (off := 59) hx hb dX12_wordOf_1 (by rw [c_1]; decide) (by rw [c_1]; decide) (by rw [c_1]; decide) (by decide) ?_
    refine va_ldcS (own := RX12) (q := zz.1 12) hx hb X.2.2.2.1 (X.2.2.2.2.2.2.1.2.1 ("PartyRaftModel", 191, "one", 12) (by decide)) dX12_wordOf_60 ?_
    subst hf
    exact wd_aret X hP hS hr0 dX12_wordOf_62 ⟨rfl, rfl⟩
  · have hf := itF hf c_1
    by_cases c_2 : x0 = 1
    · have hf := itT hf c_2
      refine lv_tableIn (tgt := 63) (off := 62) hx hb dX12_wordOf_1 (by rw [c_2]; decide) (by rw [c_2]; decide) (by rw [c_2]; decide) (by decide) ?_
      refine va_ldcS (own := RX12) (q := zz.1 13) hx hb X.2.2.2.1 (X.2.2.2.2.2.2.1.2.1 ("PartyRaftModel", 193, "other", 13) (by decide)) dX12_wordOf_63 ?_
      subst hf
      exact wd_aret X hP hS hr0 dX12_wordOf_65 ⟨rfl, rfl⟩
    · have hf := itF hf c_2
      by_cases c_3 : x0 = 2
      · have hf := itT hf c_3
        refine lv_tableIn (tgt := 66) (off := 65) hx hb dX12_wordOf_1 (by rw [c_3]; decide) (by rw [c_3]; decide) (by rw [c_3]; decide) (by decide) ?_
        refine va_ldcS (own := RX12) (q := zz.1 14) hx hb X.2.2.2.1 (X.2.2.2.2.2.2.1.2.1 ("PartyRaftModel", 195, "float", 14) (by decide)) dX12_wordOf_66 ?_
        subst hf
        exact wd_aret X hP hS hr0 dX12_wordOf_68 ⟨rfl, rfl⟩
      · have hf := itF hf c_3
        by_cases c_4 : x0 = 3
        · have hf := itT hf c_4
          refine lv_tableIn (tgt := 69) (off := 68) hx hb dX12_wordOf_1 (by rw [c_4]; decide) (by rw [c_4]; decide) (by rw [c_4]; decide) (by decide) ?_
          refine va_ldcS (own := RX12) (q := zz.1 15) hx hb X.2.2.2.1 (X.2.2.2.2.2.2.1.2.1 ("PartyRaftModel", 197, "weight", 15) (by decide)) dX12_wordOf_69 ?_
          subst hf
          exact wd_aret X hP hS hr0 dX12_wordOf_71 ⟨rfl, rfl⟩
        · have hf := itF hf c_4
          by_cases c_5 : x0 = 4
          · have hf := itT hf c_5
            refine lv_tableIn (tgt := 72) (off := 71) hx hb dX12_wordOf_1 (by rw [c_5]; decide) (by rw [c_5]; decide) (by rw [c_5]; decide) (by decide) ?_
            refine va_ldcS (own := RX12) (q := zz.1 16) hx hb X.2.2.2.1 (X.2.2.2.2.2.2.1.2.1 ("PartyRaftModel", 198, "soak", 16) (by decide)) dX12_wordOf_72 ?_
            subst hf
            exact wd_aret X hP hS hr0 dX12_wordOf_74 ⟨rfl, rfl⟩
          · have hf := itF hf c_5
            by_cases c_6 : x0 = 5
            · have hf := itT hf c_6
              refine lv_tableIn (tgt := 75) (off := 74) hx hb dX12_wordOf_1 (by rw [c_6]; decide) (by rw [c_6]; decide) (by rw [c_6]; decide) (by decide) ?_
              refine va_ldcS (own := RX12) (q := zz.1 17) hx hb X.2.2.2.1 (X.2.2.2.2.2.2.1.2.1 ("PartyRaftModel", 199, "same", 17) (by decide)) dX12_wordOf_75 ?_
              subst hf
              exact wd_aret X hP hS hr0 dX12_wordOf_77 ⟨rfl, rfl⟩
            · have hf := itF hf c_6
              by_cases c_7 : x0 = 6
              · have hf := itT hf c_7
                refine lv_tableIn (tgt := 78) (off := 77) hx hb dX12_wordOf_1 (by rw [c_7]; decide) (by rw [c_7]; decide) (by rw [c_7]; decide) (by decide) ?_
                refine va_ldcS (own := RX12) (q := zz.1 18) hx hb X.2.2.2.1 (X.2.2.2.2.2.2.1.2.1 ("PartyRaftModel", 201, "apart", 18) (by decide)) dX12_wordOf_78 ?_
                subst hf
                exact wd_aret X hP hS hr0 dX12_wordOf_80 ⟨rfl, rfl⟩
              · have hf := itF hf c_7
                by_cases c_8 : x0 = 7
                · have hf := itT hf c_8
                  refine lv_tableIn (tgt := 81) (off := 80) hx hb dX12_wordOf_1 (by rw [c_8]; decide) (by rw [c_8]; decide) (by rw [c_8]; decide) (by decide) ?_
                  refine va_ldcS (own := RX12) (q := zz.1 19) hx hb X.2.2.2.1 (X.2.2.2.2.2.2.1.2.1 ("PartyRaftModel", 203, "ropes", 19) (by decide)) dX12_wordOf_81 ?_
                  subst hf
                  exact wd_aret X hP hS hr0 dX12_wordOf_83 ⟨rfl, rfl⟩
                · have hf := itF hf c_8
                  by_cases c_9 : x0 = 8
                  · have hf := itT hf c_9
                    refine lv_tableIn (tgt := 84) (off := 83) hx hb dX12_wordOf_1 (by rw [c_9]; decide) (by rw [c_9]; decide) (by rw [c_9]; decide) (by decide) ?_
                    refine va_ldcS (own := RX12) (q := zz.1 20) hx hb X.2.2.2.1 (X.2.2.2.2.2.2.1.2.1 ("PartyRaftModel", 205, "store", 20) (by decide)) dX12_wordOf_84 ?_
                    subst hf
                    exact wd_aret X hP hS hr0 dX12_wordOf_86 ⟨rfl, rfl⟩
                  · have hf := itF hf c_9
                    by_cases c_10 : x0 = 9
                    · have hf := itT hf c_10
                      refine lv_tableIn (tgt := 87) (off := 86) hx hb dX12_wordOf_1 (by rw [c_10]; decide) (by rw [c_10]; decide) (by rw [c_10]; decide) (by decide) ?_
                      refine va_ldcS (own := RX12) (q := zz.1 21) hx hb X.2.2.2.1 (X.2.2.2.2.2.2.1.2.1 ("PartyRaftModel", 207, "mile", 21) (by decide)) dX12_wordOf_87 ?_
                      subst hf
                      exact wd_aret X hP hS hr0 dX12_wordOf_89 ⟨rfl, rfl⟩
                    · have hf := itF hf c_10
                      by_cases c_11 : x0 = 10
                      · have hf := itT hf c_11
                        refine lv_tableIn (tgt := 90) (off := 89) hx hb dX12_wordOf_1 (by rw [c_11]; decide) (by rw [c_11]; decide) (by rw [c_11]; decide) (by decide) ?_
                        refine va_ldcS (own := RX12) (q := zz.1 22) hx hb X.2.2.2.1 (X.2.2.2.2.2.2.1.2.1 ("PartyRaftModel", 209, "landing", 22) (by decide)) dX12_wordOf_90 ?_
                        subst hf
                        exact wd_aret X hP hS hr0 dX12_wordOf_92 ⟨rfl, rfl⟩
                      · have hf := itF hf c_11
                        refine lv_tableOut (tgt := 93) hx hb dX12_wordOf_1 (tb_out11 c_1 c_2 c_3 c_4 c_5 c_6 c_7 c_8 c_9 c_10 c_11) (by decide) ?_
                        refine va_ldcS (own := RX12) (q := zz.1 23) hx hb X.2.2.2.1 (X.2.2.2.2.2.2.1.2.1 ("PartyRaftModel", 210, "left", 23) (by decide)) dX12_wordOf_93 ?_
                        subst hf
                        exact wd_aret X hP hS hr0 dX12_wordOf_95 ⟨rfl, rfl⟩
theorem lt_X12_wordOf (x0 : Int32) : f_X12_wordOf x0 < 24 := by
  unfold f_X12_wordOf
  repeat (first | decide | split)

noncomputable def f_X12_fails_j23 (mm : Mm) (z0 : Int32) : Option (Mm) :=
  vlet (wI mm 1088 33 z0) fun mm_1 => some mm_1
noncomputable def f_X12_fails (mm : Mm) (x1 : Int32) (x2 : Int32) : Option (Mm) :=
  if (mm.1 1088 33) = 0 then
    f_X12_fails_j23 mm (((1 : Int32) + ((8 : Int32) * x2)) + x1)
  else
    f_X12_fails_j23 mm (mm.1 1088 33)
set_option maxHeartbeats 4000000 in
set_option maxRecDepth 100000 in
theorem c_X12_fails (l : Launch) (D : va_G) (dA : Nat → ClassId) (zz : (Nat → Nat) × (Nat → Nat)) (bs : Nat) (mm : Mm) (x1 : Int32) (x2 : Int32) (m1 : Mm) (hf : f_X12_fails mm x1 x2 = some m1) : Mw l D dA zz bs LY yX12_fails cX12_fails 3 none 0 0 [.ref (bs + 1088), .int x1, .int x2] mm none m1 := by
  refine Mw.of (own := RX12) (by decide) rfl (Nat.le_of_ble_eq_true rfl) ?_
  intro p e s m args below meth c X hr0 hP hS ls hl
  have hx := X.1
  have hb := X.2.1
  obtain ⟨H, hH⟩ : ∃ z : Heap, z = s.heap := ⟨_, rfl⟩
  obtain ⟨locs, hL⟩ : ∃ z : List Loc, z = [] := ⟨_, rfl⟩
  rw [← hH, ← hL]
  have hS : va_S (Aq bs) s.heap H locs := by rw [hH, hL]; exact hS
  have hP : Wd D dA bs LY mm H := by rw [hH]; exact hP
  have hl : lv_has ls 3 [(0, .ref (bs + 1088)), (1, .int x1), (2, .int x2)] := hl
  have hJ23 : ∀ (mmJ_2 : Mm) (z0J_2 : Int32) (H : Heap) (locs : List Loc) (ls : Array Slot), f_X12_fails_j23 mmJ_2 z0J_2 = some m1 → Wd D dA bs LY mmJ_2 H → va_S (Aq bs) s.heap H locs → lv_has ls 3 [] → Wz p l e s m args below meth c D dA bs none m1 0 0 H locs 23 ls [.int z0J_2, .ref (bs + 1088)] := by
    intro mmJ_2 z0J_2 H locs ls hf hP hS hl
    unfold f_X12_fails_j23 at hf
    refine wd_putI X hP hS L1088 fp_X12_212 rfl dX12_fails_23 (fun H locs mm_1 emm_1 hP hS => ?_)
    have hf := vl hf emm_1
    obtain rfl := Option.some.inj hf
    exact wd_vret X hP hS hr0 dX12_fails_26 ⟨rfl, rfl⟩
  unfold f_X12_fails at hf
  refine lv_aload_n hx hb dX12_fails_0 rfl (lv_at hl 0 rfl) ?_
  refine lv_aload_n hx hb dX12_fails_1 rfl (lv_at hl 0 rfl) ?_
  refine wd_getI X hP L1088 fl_X12_212 rfl dX12_fails_2 ?_
  refine lv_if_ne (tgt := 19) hx hb dX12_fails_5 (by decide) (fun c_3 => ?_) (fun c_3 => ?_)
  · have hf := itF hf c_3
    refine lv_aload_n hx hb dX12_fails_19 rfl (lv_at hl 0 rfl) ?_
    refine wd_getI X hP L1088 fl_X12_212 rfl dX12_fails_20 ?_
    exact hJ23 mm (mm.1 1088 33) H locs ls hf hP hS (lv_sub hl [] rfl)
  · have hf := itT hf c_3
    refine lv_iconst (v := 1) hx hb dX12_fails_8 (by decide) ?_
    refine lv_bipush (v := 8) hx hb dX12_fails_9 (by decide) ?_
    refine lv_iload_n hx hb dX12_fails_11 rfl (lv_at hl 2 rfl) ?_
    refine lv_imul hx hb dX12_fails_12 ?_
    refine lv_iadd hx hb dX12_fails_13 ?_
    refine lv_iload_n hx hb dX12_fails_14 rfl (lv_at hl 1 rfl) ?_
    refine lv_iadd hx hb dX12_fails_15 ?_
    refine lv_goto (tgt := 23) hx hb dX12_fails_16 (by decide) ?_
    exact hJ23 mm (((1 : Int32) + ((8 : Int32) * x2)) + x1) H locs ls hf hP hS (lv_sub hl [] rfl)

noncomputable def f_X12_sign (mm : Mm) : Option (Int32) :=
  if (mm.1 1088 31) ≤ (mm.1 1088 32) then
    some (-1 : Int32)
  else
    if (mm.1 1088 32) < 0 ∨ 400 ≤ (mm.1 1088 32).toNatClampNeg then none else
      some ((mm.1 1119 (mm.1 1088 32).toNatClampNeg) &&& (255 : Int32))
set_option maxHeartbeats 4000000 in
set_option maxRecDepth 100000 in
theorem c_X12_sign (l : Launch) (D : va_G) (dA : Nat → ClassId) (zz : (Nat → Nat) × (Nat → Nat)) (bs : Nat) (mm : Mm) (out : Int32) (hf : f_X12_sign mm = some out) : Mw l D dA zz bs LY yX12_sign cX12_sign 1 (some .int) 0 0 [.ref (bs + 1088)] mm (some (.int out)) mm := by
  refine Mw.of (own := RX12) (by decide) rfl (Nat.le_of_ble_eq_true rfl) ?_
  intro p e s m args below meth c X hr0 hP hS ls hl
  have hx := X.1
  have hb := X.2.1
  obtain ⟨H, hH⟩ : ∃ z : Heap, z = s.heap := ⟨_, rfl⟩
  obtain ⟨locs, hL⟩ : ∃ z : List Loc, z = [] := ⟨_, rfl⟩
  rw [← hH, ← hL]
  have hS : va_S (Aq bs) s.heap H locs := by rw [hH, hL]; exact hS
  have hP : Wd D dA bs LY mm H := by rw [hH]; exact hP
  have hl : lv_has ls 1 [(0, .ref (bs + 1088))] := hl
  unfold f_X12_sign at hf
  refine lv_aload_n hx hb dX12_sign_0 rfl (lv_at hl 0 rfl) ?_
  refine wd_getI X hP L1088 fl_X12_215 rfl dX12_sign_1 ?_
  refine lv_aload_n hx hb dX12_sign_4 rfl (lv_at hl 0 rfl) ?_
  refine wd_getI X hP L1088 fl_X12_184 rfl dX12_sign_5 ?_
  refine lv_icmp_ge (tgt := 27) hx hb dX12_sign_8 (by decide) (fun c_1 => ?_) (fun c_1 => ?_)
  · have hf := itT hf c_1
    refine lv_iconst (v := -1) hx hb dX12_sign_27 (by decide) ?_
    obtain rfl := Option.some.inj hf
    exact wd_iret X hP hS hr0 dX12_sign_28 ⟨rfl, rfl⟩
  · have hf := itF hf c_1
    refine lv_aload_n hx hb dX12_sign_11 rfl (lv_at hl 0 rfl) ?_
    refine wd_getR (q := 1119) X hP L1088 fl_X12_104 rfl dX12_sign_12 ?_
    refine lv_aload_n hx hb dX12_sign_15 rfl (lv_at hl 0 rfl) ?_
    refine wd_getI X hP L1088 fl_X12_215 rfl dX12_sign_16 ?_
    have g_2 := gdN hf
    have hf := gdK hf
    refine wd_bald X hP L1119 g_2 dX12_sign_19 ?_
    refine lv_sipush (v := 255) hx hb dX12_sign_20 (by decide) ?_
    refine lv_iand hx hb dX12_sign_23 ?_
    refine lv_goto (tgt := 28) hx hb dX12_sign_24 (by decide) ?_
    obtain rfl := Option.some.inj hf
    exact wd_iret X hP hS hr0 dX12_sign_28 ⟨rfl, rfl⟩

noncomputable def f_X12_blanks_s0  : (Mm) → Option ((Mm) ⊕ (Mm)) :=
  fun (mm : Mm) =>
    bi1 (f_X12_sign mm) fun r_2 =>
      if r_2 = (32 : Int32) then
        vlet (wI mm 1088 32 ((mm.1 1088 32) + (1 : Int32))) fun mm_4 => some (.inl mm_4)
      else
        some (.inr mm)
noncomputable def f_X12_blanks (mm : Mm) : Option (Mm) :=
  bi1 (lp (f_X12_blanks_s0) mm) fun mm_6 =>
    some mm_6
set_option maxHeartbeats 4000000 in
set_option maxRecDepth 100000 in
theorem c_X12_blanks (l : Launch) (D : va_G) (dA : Nat → ClassId) (zz : (Nat → Nat) × (Nat → Nat)) (bs : Nat) (mm : Mm) (m1 : Mm) (hf : f_X12_blanks mm = some m1) : Mw l D dA zz bs LY yX12_blanks cX12_blanks 1 none 1 20 [.ref (bs + 1088)] mm none m1 := by
  refine Mw.of (own := RX12) (by decide) rfl (Nat.le_of_ble_eq_true rfl) ?_
  intro p e s m args below meth c X hr0 hP hS ls hl
  have hx := X.1
  have hb := X.2.1
  obtain ⟨H, hH⟩ : ∃ z : Heap, z = s.heap := ⟨_, rfl⟩
  obtain ⟨locs, hL⟩ : ∃ z : List Loc, z = [] := ⟨_, rfl⟩
  rw [← hH, ← hL]
  have hS : va_S (Aq bs) s.heap H locs := by rw [hH, hL]; exact hS
  have hP : Wd D dA bs LY mm H := by rw [hH]; exact hP
  have hl : lv_has ls 1 [(0, .ref (bs + 1088))] := hl
  unfold f_X12_blanks at hf
  obtain ⟨q_7, hlp_8, hf⟩ := bi1S hf
  refine lp_walk (Wh := (fun mmL_5 => ∀ (H : Heap) (locs : List Loc) (ls : Array Slot), Wd D dA bs LY mmL_5 H → va_S (Aq bs) s.heap H locs → lv_has ls 1 [(0, .ref (bs + 1088))] → Wz p l e s m args below meth c D dA bs none m1 1 20 H locs 0 ls [])) (Ph := (fun mm_6 => ∀ (H : Heap) (locs : List Loc) (ls : Array Slot), Wd D dA bs LY mm_6 H → va_S (Aq bs) s.heap H locs → lv_has ls 1 [] → Wz p l e s m args below meth c D dA bs none m1 1 20 H locs 22 ls [])) ?_ hlp_8 ?_ H locs ls hP hS (lv_sub hl [0] rfl)
  · intro mmL_5 o hf hB hE
    intro H locs ls hP hS hl
    have hf : f_X12_blanks_s0 mmL_5 = some o := hf
    unfold f_X12_blanks_s0 at hf
    refine lv_aload_n hx hb dX12_blanks_0 rfl (lv_at hl 0 rfl) ?_
    obtain ⟨r_2, hc_1, hf⟩ := bi1S hf
    refine wd_cv X hP hS L1088 ml_X12_218 ⟨_, _, rfl⟩ (c_X12_sign l D dA zz bs mmL_5 r_2 hc_1) rfl ⟨Nat.le_of_ble_eq_true rfl, Nat.le_of_ble_eq_true rfl⟩ hl.1 rfl (rest := []) (Nat.le_of_ble_eq_true rfl) ⟨Nat.zero_le _, Nat.zero_le _⟩ dX12_blanks_1 (fun H locs hP hS => ?_)
    refine W.eq (g2 := F0 m 4 ls [.int r_2]) rfl ?_
    refine lv_bipush (v := 32) hx hb dX12_blanks_4 (by decide) ?_
    refine lv_icmp_ne (tgt := 22) hx hb dX12_blanks_6 (by decide) (fun c_3 => ?_) (fun c_3 => ?_)
    · have hf := itF hf c_3
      obtain rfl := Option.some.inj hf
      exact hE _ rfl H locs ls hP hS (lv_sub hl [] rfl)
    · have hf := itT hf c_3
      refine lv_aload_n hx hb dX12_blanks_9 rfl (lv_at hl 0 rfl) ?_
      refine lv_dup hx hb dX12_blanks_10 rfl ?_
      refine wd_getI X hP L1088 fl_X12_215 rfl dX12_blanks_11 ?_
      refine lv_iconst (v := 1) hx hb dX12_blanks_14 (by decide) ?_
      refine lv_iadd hx hb dX12_blanks_15 ?_
      refine wd_putI X hP hS L1088 fp_X12_215 rfl dX12_blanks_16 (fun H locs mm_4 emm_4 hP hS => ?_)
      have hf := vl hf emm_4
      refine lv_goto (tgt := 0) hx hb dX12_blanks_19 (by decide) ?_
      obtain rfl := Option.some.inj hf
      exact hB _ rfl H locs ls hP hS (lv_sub hl [0] rfl)
  · obtain ⟨mm_6, e_mm_6⟩ : ∃ z, z = q_7 := ⟨_, rfl⟩
    subst e_mm_6
    intro H locs ls hP hS hl
    obtain rfl := Option.some.inj hf
    exact wd_vret X hP hS hr0 dX12_blanks_22 ⟨rfl, rfl⟩

noncomputable def f_X12_isDigit (mm : Mm) : Option (Int32) :=
  bi1 (f_X12_sign mm) fun r_2 =>
    if ¬ (f_X12_in (r_2.toInt64) (48 : Int64) (57 : Int64)) = 0 ∧ ¬ (f_X12_in (r_2.toInt64) (48 : Int64) (57 : Int64)) = 1 then none else some (f_X12_in (r_2.toInt64) (48 : Int64) (57 : Int64))
set_option maxHeartbeats 4000000 in
set_option maxRecDepth 100000 in
theorem c_X12_isDigit (l : Launch) (D : va_G) (dA : Nat → ClassId) (zz : (Nat → Nat) × (Nat → Nat)) (bs : Nat) (mm : Mm) (out : Int32) (hf : f_X12_isDigit mm = some out) : Mw l D dA zz bs LY yX12_isDigit cX12_isDigit 1 (some .boolean) 1 25 [.ref (bs + 1088)] mm (some (.int out)) mm := by
  refine Mw.of (own := RX12) (by decide) rfl (Nat.le_of_ble_eq_true rfl) ?_
  intro p e s m args below meth c X hr0 hP hS ls hl
  have hx := X.1
  have hb := X.2.1
  obtain ⟨H, hH⟩ : ∃ z : Heap, z = s.heap := ⟨_, rfl⟩
  obtain ⟨locs, hL⟩ : ∃ z : List Loc, z = [] := ⟨_, rfl⟩
  rw [← hH, ← hL]
  have hS : va_S (Aq bs) s.heap H locs := by rw [hH, hL]; exact hS
  have hP : Wd D dA bs LY mm H := by rw [hH]; exact hP
  have hl : lv_has ls 1 [(0, .ref (bs + 1088))] := hl
  unfold f_X12_isDigit at hf
  refine lv_aload_n hx hb dX12_isDigit_0 rfl (lv_at hl 0 rfl) ?_
  obtain ⟨r_2, hc_1, hf⟩ := bi1S hf
  refine wd_cv X hP hS L1088 ml_X12_218 ⟨_, _, rfl⟩ (c_X12_sign l D dA zz bs mm r_2 hc_1) rfl ⟨Nat.le_of_ble_eq_true rfl, Nat.le_of_ble_eq_true rfl⟩ hl.1 rfl (rest := []) (Nat.le_of_ble_eq_true rfl) ⟨Nat.zero_le _, Nat.zero_le _⟩ dX12_isDigit_1 (fun H locs hP hS => ?_)
  refine W.eq (g2 := F0 m 4 ls [.int r_2]) rfl ?_
  refine lv_i2l hx hb dX12_isDigit_4 rfl ?_
  refine lv_ldc2 (own := RX12) (v := 48) hx hb X.2.2.2.1 (X.2.2.2.2.1 _ (tb_at 1437 (by decide +kernel) (by decide +kernel))) dX12_isDigit_5 ?_
  refine lv_ldc2 (own := RX12) (v := 57) hx hb X.2.2.2.1 (X.2.2.2.2.1 _ (tb_at 1438 (by decide +kernel) (by decide +kernel))) dX12_isDigit_8 ?_
  refine wd_cs X hP hS ml_X12_176 (c_X12_in l D dA zz bs mm (r_2.toInt64) (48 : Int64) (57 : Int64) (f_X12_in (r_2.toInt64) (48 : Int64) (57 : Int64)) rfl) rfl ⟨Nat.le_of_ble_eq_true rfl, Nat.le_of_ble_eq_true rfl⟩ hl.1 rfl (rest := []) (Nat.le_of_ble_eq_true rfl) ⟨Nat.zero_le _, Nat.zero_le _⟩ dX12_isDigit_11 (fun H locs hP hS => ?_)
  refine W.eq (g2 := F0 m 14 ls [.int (f_X12_in (r_2.toInt64) (48 : Int64) (57 : Int64))]) rfl ?_
  have g_3 := gdN hf
  have hf := gdK hf
  obtain rfl := Option.some.inj hf
  exact wd_zret X hP hS hr0 g_3 dX12_isDigit_14 ⟨rfl, rfl⟩

noncomputable def f_X12_stood_j102 (k1 : Nat) (mm : Mm) (y4 : Int32) (z0 : Int32) : Option ((Int32 × Int32) ⊕ (Int32)) :=
  some (.inl (z0, (y4 + 1)))
noncomputable def f_X12_stood_s63 (k1 : Nat) (mm : Mm) : (Int32 × Int32) → Option ((Int32 × Int32) ⊕ (Int32)) :=
  fun q => match q with
  | (y3, y4) =>
    if (sLn k1) ≤ y4 then
      some (.inr y3)
    else
      if y3 = 0 then
        some (.inr y3)
      else
        if ((mm.1 1088 32) + y4) < 0 ∨ 400 ≤ ((mm.1 1088 32) + y4).toNatClampNeg then none else
          if y4 < 0 ∨ sL.getD k1 0 ≤ y4.toNatClampNeg then none else
            if (mm.1 1119 ((mm.1 1088 32) + y4).toNatClampNeg) = (sCh k1 y4) then
              f_X12_stood_j102 k1 mm y4 (1 : Int32)
            else
              f_X12_stood_j102 k1 mm y4 (0 : Int32)
noncomputable def f_X12_stood_j59 (k1 : Nat) (mm : Mm) (z0 : Int32) : Option (Int32) :=
  bi1 (lp (f_X12_stood_s63 k1 mm) (z0, (0 : Int32))) fun w3_8 =>
    if ¬ w3_8 = 0 ∧ ¬ w3_8 = 1 then none else some w3_8
noncomputable def f_X12_stood_s5 (k1 : Nat) (mm : Mm) : (Int32) → Option ((Int32) ⊕ (Int32)) :=
  fun (y2 : Int32) =>
    if (mm.1 1088 31) ≤ y2 then
      some (.inr y2)
    else
      if y2 < 0 ∨ 400 ≤ y2.toNatClampNeg then none else
        if (mm.1 1119 y2.toNatClampNeg) < (97 : Int32) then
          some (.inr y2)
        else
          if y2 < 0 ∨ 400 ≤ y2.toNatClampNeg then none else
            if (122 : Int32) < (mm.1 1119 y2.toNatClampNeg) then
              some (.inr y2)
            else
              some (.inl (y2 + 1))
noncomputable def f_X12_stood (mm : Mm) (k1 : Nat) : Option (Int32) :=
  bi1 (lp (f_X12_stood_s5 k1 mm) (mm.1 1088 32)) fun w2_19 =>
    if (w2_19 - (mm.1 1088 32)) = (sLn k1) then
      f_X12_stood_j59 k1 mm (1 : Int32)
    else
      f_X12_stood_j59 k1 mm (0 : Int32)
set_option maxHeartbeats 4000000 in
set_option maxRecDepth 100000 in
theorem c_X12_stood (l : Launch) (D : va_G) (dA : Nat → ClassId) (zz : (Nat → Nat) × (Nat → Nat)) (bs : Nat) (mm : Mm) (k1 : Nat) (hk1 : k1 < 24) (out : Int32) (hf : f_X12_stood mm k1 = some out) : Mw l D dA zz bs LY yX12_stood cX12_stood 5 (some .boolean) 4 85 [.ref (bs + 1088), .ref (zz.1 k1)] mm (some (.int out)) mm := by
  refine Mw.of (own := RX12) (by decide) rfl (Nat.le_of_ble_eq_true rfl) ?_
  intro p e s m args below meth c X hr0 hP hS ls hl
  have hx := X.1
  have hb := X.2.1
  obtain ⟨H, hH⟩ : ∃ z : Heap, z = s.heap := ⟨_, rfl⟩
  obtain ⟨locs, hL⟩ : ∃ z : List Loc, z = [] := ⟨_, rfl⟩
  rw [← hH, ← hL]
  have hS : va_S (Aq bs) s.heap H locs := by rw [hH, hL]; exact hS
  have hP : Wd D dA bs LY mm H := by rw [hH]; exact hP
  have hl : lv_has ls 5 [(0, .ref (bs + 1088)), (1, .ref (zz.1 k1))] := hl
  have hJ59 : ∀ (z0J_12 : Int32) (H : Heap) (locs : List Loc) (ls : Array Slot), f_X12_stood_j59 k1 mm z0J_12 = some out → Wd D dA bs LY mm H → va_S (Aq bs) s.heap H locs → lv_has ls 5 [(0, .ref (bs + 1088)), (1, .ref (zz.1 k1))] → Wz p l e s m args below meth c D dA bs (some (.int out)) mm 4 85 H locs 59 ls [.int z0J_12] := by
    intro z0J_12 H locs ls hf hP hS hl
    unfold f_X12_stood_j59 at hf
    refine lv_istore_n (lv' := [(3, .int z0J_12), (0, .ref (bs + 1088)), (1, .ref (zz.1 k1))]) hx hb dX12_stood_59 rfl hl (by decide) rfl (fun ls hl => ?_)
    refine lv_iconst (v := 0) hx hb dX12_stood_60 (by decide) ?_
    refine lv_istore (lv' := [(4, .int (0 : Int32)), (3, .int z0J_12), (0, .ref (bs + 1088)), (1, .ref (zz.1 k1))]) hx hb dX12_stood_61 hl (by decide) rfl (fun ls hl => ?_)
    obtain ⟨q_10, hlp_11, hf⟩ := bi1S hf
    refine lp_walk (Wh := (fun z => match z with | (y3L_7, y4L_7) => ∀ (H : Heap) (locs : List Loc) (ls : Array Slot), Wd D dA bs LY mm H → va_S (Aq bs) s.heap H locs → lv_has ls 5 [(0, .ref (bs + 1088)), (1, .ref (zz.1 k1)), (3, .int y3L_7), (4, .int y4L_7)] → Wz p l e s m args below meth c D dA bs (some (.int out)) mm 4 85 H locs 63 ls [])) (Ph := (fun w3_8 => ∀ (H : Heap) (locs : List Loc) (ls : Array Slot), Wd D dA bs LY mm H → va_S (Aq bs) s.heap H locs → lv_has ls 5 [(3, .int w3_8)] → Wz p l e s m args below meth c D dA bs (some (.int out)) mm 4 85 H locs 109 ls [])) ?_ hlp_11 ?_ H locs ls hP hS (lv_sub hl [2, 3, 1, 0] rfl)
    · intro z o hf hB hE
      obtain ⟨y3L_7, y4L_7⟩ := z
      intro H locs ls hP hS hl
      have hf : f_X12_stood_s63 k1 mm (y3L_7, y4L_7) = some o := hf
      unfold f_X12_stood_s63 at hf
      dsimp only at hf
      have hJ102 : ∀ (y4J_1 : Int32) (z0J_1 : Int32) (H : Heap) (locs : List Loc) (ls : Array Slot), f_X12_stood_j102 k1 mm y4J_1 z0J_1 = some o → Wd D dA bs LY mm H → va_S (Aq bs) s.heap H locs → lv_has ls 5 [(0, .ref (bs + 1088)), (1, .ref (zz.1 k1)), (4, .int y4J_1)] → Wz p l e s m args below meth c D dA bs (some (.int out)) mm 4 85 H locs 102 ls [.int z0J_1] := by
        intro y4J_1 z0J_1 H locs ls hf hP hS hl
        unfold f_X12_stood_j102 at hf
        refine lv_istore_n (lv' := [(3, .int z0J_1), (0, .ref (bs + 1088)), (1, .ref (zz.1 k1)), (4, .int y4J_1)]) hx hb dX12_stood_102 rfl hl (by decide) rfl (fun ls hl => ?_)
        refine lv_iinc (v := (y4J_1 + 1)) (lv' := [(4, .int (y4J_1 + 1)), (3, .int z0J_1), (0, .ref (bs + 1088)), (1, .ref (zz.1 k1))]) hx hb dX12_stood_103 hl (k := 3) rfl rfl (by decide) rfl (fun ls hl => ?_)
        refine lv_goto (tgt := 63) hx hb dX12_stood_106 (by decide) ?_
        obtain rfl := Option.some.inj hf
        exact hB _ rfl H locs ls hP hS (lv_sub hl [2, 3, 1, 0] rfl)
      refine lv_iload hx hb dX12_stood_63 (lv_at hl 3 rfl) ?_
      refine lv_aload_n hx hb dX12_stood_65 rfl (lv_at hl 1 rfl) ?_
      refine wd_cr X hP hS (vk_recv X.2.2.2.2.2.2.1.1 hk1 hS) ml_X12_226 (c_length l D dA zz bs mm hk1) rfl ⟨Nat.le_of_ble_eq_true rfl, Nat.le_of_ble_eq_true rfl⟩ hl.1 rfl (rest := [.int y4L_7]) (Nat.le_of_ble_eq_true rfl) ⟨Nat.zero_le _, Nat.zero_le _⟩ dX12_stood_66 (fun H locs hP hS => ?_)
      refine W.eq (g2 := F0 m 69 ls [.int (sLn k1), .int y4L_7]) rfl ?_
      refine lv_icmp_ge (tgt := 109) hx hb dX12_stood_69 (by decide) (fun c_2 => ?_) (fun c_2 => ?_)
      · have hf := itT hf c_2
        obtain rfl := Option.some.inj hf
        exact hE _ rfl H locs ls hP hS (lv_sub hl [2] rfl)
      · have hf := itF hf c_2
        refine lv_iload_n hx hb dX12_stood_72 rfl (lv_at hl 2 rfl) ?_
        refine lv_if_eq (tgt := 109) hx hb dX12_stood_73 (by decide) (fun c_3 => ?_) (fun c_3 => ?_)
        · have hf := itT hf c_3
          obtain rfl := Option.some.inj hf
          exact hE _ rfl H locs ls hP hS (lv_sub hl [2] rfl)
        · have hf := itF hf c_3
          refine lv_aload_n hx hb dX12_stood_76 rfl (lv_at hl 0 rfl) ?_
          refine wd_getR (q := 1119) X hP L1088 fl_X12_104 rfl dX12_stood_77 ?_
          refine lv_aload_n hx hb dX12_stood_80 rfl (lv_at hl 0 rfl) ?_
          refine wd_getI X hP L1088 fl_X12_215 rfl dX12_stood_81 ?_
          refine lv_iload hx hb dX12_stood_84 (lv_at hl 3 rfl) ?_
          refine lv_iadd hx hb dX12_stood_86 ?_
          have g_4 := gdN hf
          have hf := gdK hf
          refine wd_bald X hP L1119 g_4 dX12_stood_87 ?_
          refine lv_aload_n hx hb dX12_stood_88 rfl (lv_at hl 1 rfl) ?_
          refine lv_iload hx hb dX12_stood_89 (lv_at hl 3 rfl) ?_
          have g_5 := gdN hf
          have hf := gdK hf
          refine wd_cr X hP hS (vk_recv X.2.2.2.2.2.2.1.1 hk1 hS) ml_X12_231 (c_charAt l D dA zz bs mm hk1 g_5) rfl ⟨Nat.le_of_ble_eq_true rfl, Nat.le_of_ble_eq_true rfl⟩ hl.1 rfl (rest := [.int (mm.1 1119 ((mm.1 1088 32) + y4L_7).toNatClampNeg)]) (Nat.le_of_ble_eq_true rfl) ⟨Nat.zero_le _, Nat.zero_le _⟩ dX12_stood_91 (fun H locs hP hS => ?_)
          refine W.eq (g2 := F0 m 94 ls [.int (sCh k1 y4L_7), .int (mm.1 1119 ((mm.1 1088 32) + y4L_7).toNatClampNeg)]) rfl ?_
          refine lv_icmp_ne (tgt := 101) hx hb dX12_stood_94 (by decide) (fun c_6 => ?_) (fun c_6 => ?_)
          · have hf := itF hf c_6
            refine lv_iconst (v := 0) hx hb dX12_stood_101 (by decide) ?_
            exact hJ102 y4L_7 (0 : Int32) H locs ls hf hP hS (lv_sub hl [0, 1, 3] rfl)
          · have hf := itT hf c_6
            refine lv_iconst (v := 1) hx hb dX12_stood_97 (by decide) ?_
            refine lv_goto (tgt := 102) hx hb dX12_stood_98 (by decide) ?_
            exact hJ102 y4L_7 (1 : Int32) H locs ls hf hP hS (lv_sub hl [0, 1, 3] rfl)
    · obtain ⟨w3_8, e_w3_8⟩ : ∃ z, z = q_10 := ⟨_, rfl⟩
      subst e_w3_8
      intro H locs ls hP hS hl
      refine lv_iload_n hx hb dX12_stood_109 rfl (lv_at hl 0 rfl) ?_
      have g_9 := gdN hf
      have hf := gdK hf
      obtain rfl := Option.some.inj hf
      exact wd_zret X hP hS hr0 g_9 dX12_stood_110 ⟨rfl, rfl⟩
  unfold f_X12_stood at hf
  refine lv_aload_n hx hb dX12_stood_0 rfl (lv_at hl 0 rfl) ?_
  refine wd_getI X hP L1088 fl_X12_215 rfl dX12_stood_1 ?_
  refine lv_istore_n (lv' := [(2, .int (mm.1 1088 32)), (0, .ref (bs + 1088)), (1, .ref (zz.1 k1))]) hx hb dX12_stood_4 rfl hl (by decide) rfl (fun ls hl => ?_)
  obtain ⟨q_21, hlp_22, hf⟩ := bi1S hf
  refine lp_walk (Wh := (fun y2L_18 => ∀ (H : Heap) (locs : List Loc) (ls : Array Slot), Wd D dA bs LY mm H → va_S (Aq bs) s.heap H locs → lv_has ls 5 [(0, .ref (bs + 1088)), (1, .ref (zz.1 k1)), (2, .int y2L_18)] → Wz p l e s m args below meth c D dA bs (some (.int out)) mm 4 85 H locs 5 ls [])) (Ph := (fun w2_19 => ∀ (H : Heap) (locs : List Loc) (ls : Array Slot), Wd D dA bs LY mm H → va_S (Aq bs) s.heap H locs → lv_has ls 5 [(0, .ref (bs + 1088)), (1, .ref (zz.1 k1)), (2, .int w2_19)] → Wz p l e s m args below meth c D dA bs (some (.int out)) mm 4 85 H locs 41 ls [])) ?_ hlp_22 ?_ H locs ls hP hS (lv_sub hl [1, 2, 0] rfl)
  · intro y2L_18 o hf hB hE
    intro H locs ls hP hS hl
    have hf : f_X12_stood_s5 k1 mm y2L_18 = some o := hf
    unfold f_X12_stood_s5 at hf
    refine lv_iload_n hx hb dX12_stood_5 rfl (lv_at hl 2 rfl) ?_
    refine lv_aload_n hx hb dX12_stood_6 rfl (lv_at hl 0 rfl) ?_
    refine wd_getI X hP L1088 fl_X12_184 rfl dX12_stood_7 ?_
    refine lv_icmp_ge (tgt := 41) hx hb dX12_stood_10 (by decide) (fun c_13 => ?_) (fun c_13 => ?_)
    · have hf := itT hf c_13
      obtain rfl := Option.some.inj hf
      exact hE _ rfl H locs ls hP hS (lv_sub hl [0, 1, 2] rfl)
    · have hf := itF hf c_13
      refine lv_aload_n hx hb dX12_stood_13 rfl (lv_at hl 0 rfl) ?_
      refine wd_getR (q := 1119) X hP L1088 fl_X12_104 rfl dX12_stood_14 ?_
      refine lv_iload_n hx hb dX12_stood_17 rfl (lv_at hl 2 rfl) ?_
      have g_14 := gdN hf
      have hf := gdK hf
      refine wd_bald X hP L1119 g_14 dX12_stood_18 ?_
      refine lv_bipush (v := 97) hx hb dX12_stood_19 (by decide) ?_
      refine lv_icmp_lt (tgt := 41) hx hb dX12_stood_21 (by decide) (fun c_15 => ?_) (fun c_15 => ?_)
      · have hf := itT hf c_15
        obtain rfl := Option.some.inj hf
        exact hE _ rfl H locs ls hP hS (lv_sub hl [0, 1, 2] rfl)
      · have hf := itF hf c_15
        refine lv_aload_n hx hb dX12_stood_24 rfl (lv_at hl 0 rfl) ?_
        refine wd_getR (q := 1119) X hP L1088 fl_X12_104 rfl dX12_stood_25 ?_
        refine lv_iload_n hx hb dX12_stood_28 rfl (lv_at hl 2 rfl) ?_
        have g_16 := gdN hf
        have hf := gdK hf
        refine wd_bald X hP L1119 g_16 dX12_stood_29 ?_
        refine lv_bipush (v := 122) hx hb dX12_stood_30 (by decide) ?_
        refine lv_icmp_gt (tgt := 41) hx hb dX12_stood_32 (by decide) (fun c_17 => ?_) (fun c_17 => ?_)
        · have hf := itT hf c_17
          obtain rfl := Option.some.inj hf
          exact hE _ rfl H locs ls hP hS (lv_sub hl [0, 1, 2] rfl)
        · have hf := itF hf c_17
          refine lv_iinc (v := (y2L_18 + 1)) (lv' := [(2, .int (y2L_18 + 1)), (0, .ref (bs + 1088)), (1, .ref (zz.1 k1))]) hx hb dX12_stood_35 hl (k := 2) rfl rfl (by decide) rfl (fun ls hl => ?_)
          refine lv_goto (tgt := 5) hx hb dX12_stood_38 (by decide) ?_
          obtain rfl := Option.some.inj hf
          exact hB _ rfl H locs ls hP hS (lv_sub hl [1, 2, 0] rfl)
  · obtain ⟨w2_19, e_w2_19⟩ : ∃ z, z = q_21 := ⟨_, rfl⟩
    subst e_w2_19
    intro H locs ls hP hS hl
    refine lv_iload_n hx hb dX12_stood_41 rfl (lv_at hl 2 rfl) ?_
    refine lv_aload_n hx hb dX12_stood_42 rfl (lv_at hl 0 rfl) ?_
    refine wd_getI X hP L1088 fl_X12_215 rfl dX12_stood_43 ?_
    refine lv_isub hx hb dX12_stood_46 ?_
    refine lv_aload_n hx hb dX12_stood_47 rfl (lv_at hl 1 rfl) ?_
    refine wd_cr X hP hS (vk_recv X.2.2.2.2.2.2.1.1 hk1 hS) ml_X12_226 (c_length l D dA zz bs mm hk1) rfl ⟨Nat.le_of_ble_eq_true rfl, Nat.le_of_ble_eq_true rfl⟩ hl.1 rfl (rest := [.int (w2_19 - (mm.1 1088 32))]) (Nat.le_of_ble_eq_true rfl) ⟨Nat.zero_le _, Nat.zero_le _⟩ dX12_stood_48 (fun H locs hP hS => ?_)
    refine W.eq (g2 := F0 m 51 ls [.int (sLn k1), .int (w2_19 - (mm.1 1088 32))]) rfl ?_
    refine lv_icmp_ne (tgt := 58) hx hb dX12_stood_51 (by decide) (fun c_20 => ?_) (fun c_20 => ?_)
    · have hf := itF hf c_20
      refine lv_iconst (v := 0) hx hb dX12_stood_58 (by decide) ?_
      exact hJ59 (0 : Int32) H locs ls hf hP hS (lv_sub hl [0, 1] rfl)
    · have hf := itT hf c_20
      refine lv_iconst (v := 1) hx hb dX12_stood_54 (by decide) ?_
      refine lv_goto (tgt := 59) hx hb dX12_stood_55 (by decide) ?_
      exact hJ59 (1 : Int32) H locs ls hf hP hS (lv_sub hl [0, 1] rfl)

noncomputable def f_X12_takes_j27 (k1 : Nat) (mm : Mm) (y2 : Int32) (z0 : Int32) (z1 : Int32) : Option (Int32 × Mm) :=
  vlet (wI mm 1088 32 (z1 + z0)) fun mm_1 => if ¬ y2 = 0 ∧ ¬ y2 = 1 then none else some (y2, mm_1)
noncomputable def f_X12_takes (mm : Mm) (k1 : Nat) : Option (Int32 × Mm) :=
  bi1 (f_X12_blanks mm) fun mm_4 =>
    bi1 (f_X12_stood mm_4 k1) fun r_7 =>
      if r_7 = 0 then
        f_X12_takes_j27 k1 mm_4 r_7 (0 : Int32) (mm_4.1 1088 32)
      else
        f_X12_takes_j27 k1 mm_4 r_7 (sLn k1) (mm_4.1 1088 32)
set_option maxHeartbeats 4000000 in
set_option maxRecDepth 100000 in
theorem c_X12_takes (l : Launch) (D : va_G) (dA : Nat → ClassId) (zz : (Nat → Nat) × (Nat → Nat)) (bs : Nat) (mm : Mm) (k1 : Nat) (hk1 : k1 < 24) (out : Int32) (m1 : Mm) (hf : f_X12_takes mm k1 = some (out, m1)) : Mw l D dA zz bs LY yX12_takes cX12_takes 3 (some .boolean) 5 109 [.ref (bs + 1088), .ref (zz.1 k1)] mm (some (.int out)) m1 := by
  refine Mw.of (own := RX12) (by decide) rfl (Nat.le_of_ble_eq_true rfl) ?_
  intro p e s m args below meth c X hr0 hP hS ls hl
  have hx := X.1
  have hb := X.2.1
  obtain ⟨H, hH⟩ : ∃ z : Heap, z = s.heap := ⟨_, rfl⟩
  obtain ⟨locs, hL⟩ : ∃ z : List Loc, z = [] := ⟨_, rfl⟩
  rw [← hH, ← hL]
  have hS : va_S (Aq bs) s.heap H locs := by rw [hH, hL]; exact hS
  have hP : Wd D dA bs LY mm H := by rw [hH]; exact hP
  have hl : lv_has ls 3 [(0, .ref (bs + 1088)), (1, .ref (zz.1 k1))] := hl
  have hJ27 : ∀ (mmJ_3 : Mm) (y2J_3 : Int32) (z0J_3 : Int32) (z1J_3 : Int32) (H : Heap) (locs : List Loc) (ls : Array Slot), f_X12_takes_j27 k1 mmJ_3 y2J_3 z0J_3 z1J_3 = some (out, m1) → Wd D dA bs LY mmJ_3 H → va_S (Aq bs) s.heap H locs → lv_has ls 3 [(2, .int y2J_3)] → Wz p l e s m args below meth c D dA bs (some (.int out)) m1 5 109 H locs 27 ls [.int z0J_3, .int z1J_3, .ref (bs + 1088)] := by
    intro mmJ_3 y2J_3 z0J_3 z1J_3 H locs ls hf hP hS hl
    unfold f_X12_takes_j27 at hf
    refine lv_iadd hx hb dX12_takes_27 ?_
    refine wd_putI X hP hS L1088 fp_X12_215 rfl dX12_takes_28 (fun H locs mm_1 emm_1 hP hS => ?_)
    have hf := vl hf emm_1
    refine lv_iload_n hx hb dX12_takes_31 rfl (lv_at hl 0 rfl) ?_
    have g_2 := gdN hf
    have hf := gdK hf
    obtain ⟨rfl, rfl⟩ := Prod.mk.inj (Option.some.inj hf)
    exact wd_zret X hP hS hr0 g_2 dX12_takes_32 ⟨rfl, rfl⟩
  unfold f_X12_takes at hf
  refine lv_aload_n hx hb dX12_takes_0 rfl (lv_at hl 0 rfl) ?_
  obtain ⟨mm_4, hc_5, hf⟩ := bi1S hf
  refine wd_cv X hP hS L1088 ml_X12_235 ⟨_, _, rfl⟩ (c_X12_blanks l D dA zz bs mm mm_4 hc_5) rfl ⟨Nat.le_of_ble_eq_true rfl, Nat.le_of_ble_eq_true rfl⟩ hl.1 rfl (rest := []) (Nat.le_of_ble_eq_true rfl) ⟨Nat.zero_le _, Nat.zero_le _⟩ dX12_takes_1 (fun H locs hP hS => ?_)
  refine W.eq (g2 := F0 m 4 ls []) rfl ?_
  refine lv_aload_n hx hb dX12_takes_4 rfl (lv_at hl 0 rfl) ?_
  refine lv_aload_n hx hb dX12_takes_5 rfl (lv_at hl 1 rfl) ?_
  obtain ⟨r_7, hc_6, hf⟩ := bi1S hf
  refine wd_cv X hP hS L1088 ml_X12_238 ⟨_, _, rfl⟩ (c_X12_stood l D dA zz bs mm_4 k1 hk1 r_7 hc_6) rfl ⟨Nat.le_of_ble_eq_true rfl, Nat.le_of_ble_eq_true rfl⟩ hl.1 rfl (rest := []) (Nat.le_of_ble_eq_true rfl) ⟨Nat.zero_le _, Nat.zero_le _⟩ dX12_takes_6 (fun H locs hP hS => ?_)
  refine W.eq (g2 := F0 m 9 ls [.int r_7]) rfl ?_
  refine lv_istore_n (lv' := [(2, .int r_7), (0, .ref (bs + 1088)), (1, .ref (zz.1 k1))]) hx hb dX12_takes_9 rfl hl (by decide) rfl (fun ls hl => ?_)
  refine lv_aload_n hx hb dX12_takes_10 rfl (lv_at hl 1 rfl) ?_
  refine lv_dup hx hb dX12_takes_11 rfl ?_
  refine wd_getI X hP L1088 fl_X12_215 rfl dX12_takes_12 ?_
  refine lv_iload_n hx hb dX12_takes_15 rfl (lv_at hl 0 rfl) ?_
  refine lv_if_eq (tgt := 26) hx hb dX12_takes_16 (by decide) (fun c_8 => ?_) (fun c_8 => ?_)
  · have hf := itT hf c_8
    refine lv_iconst (v := 0) hx hb dX12_takes_26 (by decide) ?_
    exact hJ27 mm_4 r_7 (0 : Int32) (mm_4.1 1088 32) H locs ls hf hP hS (lv_sub hl [0] rfl)
  · have hf := itF hf c_8
    refine lv_aload_n hx hb dX12_takes_19 rfl (lv_at hl 2 rfl) ?_
    refine wd_cr X hP hS (vk_recv X.2.2.2.2.2.2.1.1 hk1 hS) ml_X12_226 (c_length l D dA zz bs mm_4 hk1) rfl ⟨Nat.le_of_ble_eq_true rfl, Nat.le_of_ble_eq_true rfl⟩ hl.1 rfl (rest := [.int (mm_4.1 1088 32), .ref (bs + 1088)]) (Nat.le_of_ble_eq_true rfl) ⟨Nat.zero_le _, Nat.zero_le _⟩ dX12_takes_20 (fun H locs hP hS => ?_)
    refine W.eq (g2 := F0 m 23 ls [.int (sLn k1), .int (mm_4.1 1088 32), .ref (bs + 1088)]) rfl ?_
    refine lv_goto (tgt := 27) hx hb dX12_takes_23 (by decide) ?_
    exact hJ27 mm_4 r_7 (sLn k1) (mm_4.1 1088 32) H locs ls hf hP hS (lv_sub hl [0] rfl)

noncomputable def f_X12_entry (mm : Mm) (x1 : Int32) (x2 : Int32) : Option (Mm) :=
  if (mm.1 1088 33) = 0 then
    if (((300 : Int32) * (mm.1 1088 34)) + (mm.1 1088 36)) < 0 ∨ 1800 ≤ (((300 : Int32) * (mm.1 1088 34)) + (mm.1 1088 36)).toNatClampNeg then none else
      vlet (wI mm 1120 (((300 : Int32) * (mm.1 1088 34)) + (mm.1 1088 36)).toNatClampNeg x1) fun mm_2 =>
        if (((300 : Int32) * (mm_2.1 1088 34)) + (mm_2.1 1088 36)) < 0 ∨ 1800 ≤ (((300 : Int32) * (mm_2.1 1088 34)) + (mm_2.1 1088 36)).toNatClampNeg then none else
          vlet (wI mm_2 1121 (((300 : Int32) * (mm_2.1 1088 34)) + (mm_2.1 1088 36)).toNatClampNeg x2) fun mm_4 =>
            vlet (wI mm_4 1088 36 ((mm_4.1 1088 36) + (1 : Int32))) fun mm_6 => some mm_6
  else
    some mm
set_option maxHeartbeats 4000000 in
set_option maxRecDepth 100000 in
theorem c_X12_entry (l : Launch) (D : va_G) (dA : Nat → ClassId) (zz : (Nat → Nat) × (Nat → Nat)) (bs : Nat) (mm : Mm) (x1 : Int32) (x2 : Int32) (m1 : Mm) (hf : f_X12_entry mm x1 x2 = some m1) : Mw l D dA zz bs LY yX12_entry cX12_entry 3 none 0 0 [.ref (bs + 1088), .int x1, .int x2] mm none m1 := by
  refine Mw.of (own := RX12) (by decide) rfl (Nat.le_of_ble_eq_true rfl) ?_
  intro p e s m args below meth c X hr0 hP hS ls hl
  have hx := X.1
  have hb := X.2.1
  obtain ⟨H, hH⟩ : ∃ z : Heap, z = s.heap := ⟨_, rfl⟩
  obtain ⟨locs, hL⟩ : ∃ z : List Loc, z = [] := ⟨_, rfl⟩
  rw [← hH, ← hL]
  have hS : va_S (Aq bs) s.heap H locs := by rw [hH, hL]; exact hS
  have hP : Wd D dA bs LY mm H := by rw [hH]; exact hP
  have hl : lv_has ls 3 [(0, .ref (bs + 1088)), (1, .int x1), (2, .int x2)] := hl
  unfold f_X12_entry at hf
  refine lv_aload_n hx hb dX12_entry_0 rfl (lv_at hl 0 rfl) ?_
  refine wd_getI X hP L1088 fl_X12_212 rfl dX12_entry_1 ?_
  refine lv_if_ne (tgt := 55) hx hb dX12_entry_4 (by decide) (fun c_1 => ?_) (fun c_1 => ?_)
  · have hf := itF hf c_1
    obtain rfl := Option.some.inj hf
    exact wd_vret X hP hS hr0 dX12_entry_55 ⟨rfl, rfl⟩
  · have hf := itT hf c_1
    refine lv_aload_n hx hb dX12_entry_7 rfl (lv_at hl 0 rfl) ?_
    refine wd_getR (q := 1120) X hP L1088 fl_X12_108 rfl dX12_entry_8 ?_
    refine lv_sipush (v := 300) hx hb dX12_entry_11 (by decide) ?_
    refine lv_aload_n hx hb dX12_entry_14 rfl (lv_at hl 0 rfl) ?_
    refine wd_getI X hP L1088 fl_X12_242 rfl dX12_entry_15 ?_
    refine lv_imul hx hb dX12_entry_18 ?_
    refine lv_aload_n hx hb dX12_entry_19 rfl (lv_at hl 0 rfl) ?_
    refine wd_getI X hP L1088 fl_X12_245 rfl dX12_entry_20 ?_
    refine lv_iadd hx hb dX12_entry_23 ?_
    refine lv_iload_n hx hb dX12_entry_24 rfl (lv_at hl 1 rfl) ?_
    have g_3 := gdN hf
    have hf := gdK hf
    refine wd_iast X hP hS L1120 g_3 dX12_entry_25 (fun H locs mm_2 emm_2 hP hS => ?_)
    have hf := vl hf emm_2
    refine lv_aload_n hx hb dX12_entry_26 rfl (lv_at hl 0 rfl) ?_
    refine wd_getR (q := 1121) X hP L1088 fl_X12_111 rfl dX12_entry_27 ?_
    refine lv_sipush (v := 300) hx hb dX12_entry_30 (by decide) ?_
    refine lv_aload_n hx hb dX12_entry_33 rfl (lv_at hl 0 rfl) ?_
    refine wd_getI X hP L1088 fl_X12_242 rfl dX12_entry_34 ?_
    refine lv_imul hx hb dX12_entry_37 ?_
    refine lv_aload_n hx hb dX12_entry_38 rfl (lv_at hl 0 rfl) ?_
    refine wd_getI X hP L1088 fl_X12_245 rfl dX12_entry_39 ?_
    refine lv_iadd hx hb dX12_entry_42 ?_
    refine lv_iload_n hx hb dX12_entry_43 rfl (lv_at hl 2 rfl) ?_
    have g_5 := gdN hf
    have hf := gdK hf
    refine wd_iast X hP hS L1121 g_5 dX12_entry_44 (fun H locs mm_4 emm_4 hP hS => ?_)
    have hf := vl hf emm_4
    refine lv_aload_n hx hb dX12_entry_45 rfl (lv_at hl 0 rfl) ?_
    refine lv_dup hx hb dX12_entry_46 rfl ?_
    refine wd_getI X hP L1088 fl_X12_245 rfl dX12_entry_47 ?_
    refine lv_iconst (v := 1) hx hb dX12_entry_50 (by decide) ?_
    refine lv_iadd hx hb dX12_entry_51 ?_
    refine wd_putI X hP hS L1088 fp_X12_245 rfl dX12_entry_52 (fun H locs mm_6 emm_6 hP hS => ?_)
    have hf := vl hf emm_6
    obtain rfl := Option.some.inj hf
    exact wd_vret X hP hS hr0 dX12_entry_55 ⟨rfl, rfl⟩

noncomputable def f_X12_isCounted_j15 (mm : Mm) : Option (Mm) :=
  vlet (wI mm 1088 38 ((mm.1 1088 38) + (1 : Int32))) fun mm_1 => some mm_1
noncomputable def f_X12_isCounted (mm : Mm) (x1 : Int32) : Option (Mm) :=
  if (mm.1 1088 38) = (60 : Int32) then
    bi1 (f_X12_fails mm (3 : Int32) x1) fun mm_4 => f_X12_isCounted_j15 mm_4
  else
    f_X12_isCounted_j15 mm
set_option maxHeartbeats 4000000 in
set_option maxRecDepth 100000 in
theorem c_X12_isCounted (l : Launch) (D : va_G) (dA : Nat → ClassId) (zz : (Nat → Nat) × (Nat → Nat)) (bs : Nat) (mm : Mm) (x1 : Int32) (m1 : Mm) (hf : f_X12_isCounted mm x1 = some m1) : Mw l D dA zz bs LY yX12_isCounted cX12_isCounted 2 none 1 22 [.ref (bs + 1088), .int x1] mm none m1 := by
  refine Mw.of (own := RX12) (by decide) rfl (Nat.le_of_ble_eq_true rfl) ?_
  intro p e s m args below meth c X hr0 hP hS ls hl
  have hx := X.1
  have hb := X.2.1
  obtain ⟨H, hH⟩ : ∃ z : Heap, z = s.heap := ⟨_, rfl⟩
  obtain ⟨locs, hL⟩ : ∃ z : List Loc, z = [] := ⟨_, rfl⟩
  rw [← hH, ← hL]
  have hS : va_S (Aq bs) s.heap H locs := by rw [hH, hL]; exact hS
  have hP : Wd D dA bs LY mm H := by rw [hH]; exact hP
  have hl : lv_has ls 2 [(0, .ref (bs + 1088)), (1, .int x1)] := hl
  have hJ15 : ∀ (mmJ_2 : Mm) (H : Heap) (locs : List Loc) (ls : Array Slot), f_X12_isCounted_j15 mmJ_2 = some m1 → Wd D dA bs LY mmJ_2 H → va_S (Aq bs) s.heap H locs → lv_has ls 2 [(0, .ref (bs + 1088))] → Wz p l e s m args below meth c D dA bs none m1 1 22 H locs 15 ls [] := by
    intro mmJ_2 H locs ls hf hP hS hl
    unfold f_X12_isCounted_j15 at hf
    refine lv_aload_n hx hb dX12_isCounted_15 rfl (lv_at hl 0 rfl) ?_
    refine lv_dup hx hb dX12_isCounted_16 rfl ?_
    refine wd_getI X hP L1088 fl_X12_248 rfl dX12_isCounted_17 ?_
    refine lv_iconst (v := 1) hx hb dX12_isCounted_20 (by decide) ?_
    refine lv_iadd hx hb dX12_isCounted_21 ?_
    refine wd_putI X hP hS L1088 fp_X12_248 rfl dX12_isCounted_22 (fun H locs mm_1 emm_1 hP hS => ?_)
    have hf := vl hf emm_1
    obtain rfl := Option.some.inj hf
    exact wd_vret X hP hS hr0 dX12_isCounted_25 ⟨rfl, rfl⟩
  unfold f_X12_isCounted at hf
  refine lv_aload_n hx hb dX12_isCounted_0 rfl (lv_at hl 0 rfl) ?_
  refine wd_getI X hP L1088 fl_X12_248 rfl dX12_isCounted_1 ?_
  refine lv_bipush (v := 60) hx hb dX12_isCounted_4 (by decide) ?_
  refine lv_icmp_ne (tgt := 15) hx hb dX12_isCounted_6 (by decide) (fun c_3 => ?_) (fun c_3 => ?_)
  · have hf := itF hf c_3
    exact hJ15 mm H locs ls hf hP hS (lv_sub hl [0] rfl)
  · have hf := itT hf c_3
    refine lv_aload_n hx hb dX12_isCounted_9 rfl (lv_at hl 0 rfl) ?_
    refine lv_iconst (v := 3) hx hb dX12_isCounted_10 (by decide) ?_
    refine lv_iload_n hx hb dX12_isCounted_11 rfl (lv_at hl 1 rfl) ?_
    obtain ⟨mm_4, hc_5, hf⟩ := bi1S hf
    refine wd_cv X hP hS L1088 ml_X12_251 ⟨_, _, rfl⟩ (c_X12_fails l D dA zz bs mm (3 : Int32) x1 mm_4 hc_5) rfl ⟨Nat.le_of_ble_eq_true rfl, Nat.le_of_ble_eq_true rfl⟩ hl.1 rfl (rest := []) (Nat.le_of_ble_eq_true rfl) ⟨Nat.zero_le _, Nat.zero_le _⟩ dX12_isCounted_12 (fun H locs hP hS => ?_)
    refine W.eq (g2 := F0 m 15 ls []) rfl ?_
    exact hJ15 mm_4 H locs ls hf hP hS (lv_sub hl [0] rfl)

noncomputable def f_X12_digits_j87 (mm : Mm) (y2 : Int32) (y3 : Int32) : Option (Int32 × Mm) :=
  bi1 (f_X12_fails mm (1 : Int32) y2) fun mm_1 => some (y3, mm_1)
noncomputable def f_X12_digits_j58 (mm : Mm) (y1 : Int32) (y2 : Int32) (z0 : Int32) : Option ((Int32 × Mm) ⊕ (Int32 × Mm)) :=
  vlet (wI mm 1088 32 ((mm.1 1088 32) + (1 : Int32))) fun mm_7 => some (.inl (z0, mm_7))
noncomputable def f_X12_digits_s25 (y1 : Int32) (y2 : Int32) : (Int32 × Mm) → Option ((Int32 × Mm) ⊕ (Int32 × Mm)) :=
  fun q => match q with
  | (y3, mm) =>
    bi1 (f_X12_isDigit mm) fun r_10 =>
      if r_10 = 0 then
        some (.inr (y3, mm))
      else
        if (5 : Int32) ≤ ((mm.1 1088 32) - y2) then
          f_X12_digits_j58 mm y1 y2 y3
        else
          bi1 (f_X12_sign mm) fun r_14 =>
            f_X12_digits_j58 mm y1 y2 ((((10 : Int32) * y3) + r_14) - (48 : Int32))
noncomputable def f_X12_digits (mm : Mm) (x1 : Int32) : Option (Int32 × Mm) :=
  bi1 (f_X12_isDigit mm) fun r_5 =>
    if r_5 = 0 then
      bi1 (f_X12_fails mm (0 : Int32) (mm.1 1088 32)) fun mm_22 => some ((0 : Int32), mm_22)
    else
      bi1 (lp (f_X12_digits_s25 x1 (mm.1 1088 32)) ((0 : Int32), mm)) fun q => match q with
      | (w3_16, mm_17) =>
        if (5 : Int32) < ((mm_17.1 1088 32) - (mm.1 1088 32)) then
          f_X12_digits_j87 mm_17 (mm.1 1088 32) w3_16
        else
          if w3_16 ≤ x1 then
            some (w3_16, mm_17)
          else
            f_X12_digits_j87 mm_17 (mm.1 1088 32) w3_16
set_option maxHeartbeats 4000000 in
set_option maxRecDepth 100000 in
theorem c_X12_digits (l : Launch) (D : va_G) (dA : Nat → ClassId) (zz : (Nat → Nat) × (Nat → Nat)) (bs : Nat) (mm : Mm) (x1 : Int32) (out : Int32) (m1 : Mm) (hf : f_X12_digits mm x1 = some (out, m1)) : Mw l D dA zz bs LY yX12_digits cX12_digits 4 (some .int) 2 45 [.ref (bs + 1088), .int x1] mm (some (.int out)) m1 := by
  refine Mw.of (own := RX12) (by decide) rfl (Nat.le_of_ble_eq_true rfl) ?_
  intro p e s m args below meth c X hr0 hP hS ls hl
  have hx := X.1
  have hb := X.2.1
  obtain ⟨H, hH⟩ : ∃ z : Heap, z = s.heap := ⟨_, rfl⟩
  obtain ⟨locs, hL⟩ : ∃ z : List Loc, z = [] := ⟨_, rfl⟩
  rw [← hH, ← hL]
  have hS : va_S (Aq bs) s.heap H locs := by rw [hH, hL]; exact hS
  have hP : Wd D dA bs LY mm H := by rw [hH]; exact hP
  have hl : lv_has ls 4 [(0, .ref (bs + 1088)), (1, .int x1)] := hl
  have hJ87 : ∀ (mmJ_3 : Mm) (y2J_3 : Int32) (y3J_3 : Int32) (H : Heap) (locs : List Loc) (ls : Array Slot), f_X12_digits_j87 mmJ_3 y2J_3 y3J_3 = some (out, m1) → Wd D dA bs LY mmJ_3 H → va_S (Aq bs) s.heap H locs → lv_has ls 4 [(0, .ref (bs + 1088)), (2, .int y2J_3), (3, .int y3J_3)] → Wz p l e s m args below meth c D dA bs (some (.int out)) m1 2 45 H locs 87 ls [] := by
    intro mmJ_3 y2J_3 y3J_3 H locs ls hf hP hS hl
    unfold f_X12_digits_j87 at hf
    refine lv_aload_n hx hb dX12_digits_87 rfl (lv_at hl 0 rfl) ?_
    refine lv_iconst (v := 1) hx hb dX12_digits_88 (by decide) ?_
    refine lv_iload_n hx hb dX12_digits_89 rfl (lv_at hl 1 rfl) ?_
    obtain ⟨mm_1, hc_2, hf⟩ := bi1S hf
    refine wd_cv X hP hS L1088 ml_X12_251 ⟨_, _, rfl⟩ (c_X12_fails l D dA zz bs mmJ_3 (1 : Int32) y2J_3 mm_1 hc_2) rfl ⟨Nat.le_of_ble_eq_true rfl, Nat.le_of_ble_eq_true rfl⟩ hl.1 rfl (rest := []) (Nat.le_of_ble_eq_true rfl) ⟨Nat.zero_le _, Nat.zero_le _⟩ dX12_digits_90 (fun H locs hP hS => ?_)
    refine W.eq (g2 := F0 m 93 ls []) rfl ?_
    refine lv_iload_n hx hb dX12_digits_93 rfl (lv_at hl 2 rfl) ?_
    obtain ⟨rfl, rfl⟩ := Prod.mk.inj (Option.some.inj hf)
    exact wd_iret X hP hS hr0 dX12_digits_94 ⟨rfl, rfl⟩
  unfold f_X12_digits at hf
  refine lv_aload_n hx hb dX12_digits_0 rfl (lv_at hl 0 rfl) ?_
  obtain ⟨r_5, hc_4, hf⟩ := bi1S hf
  refine wd_cv X hP hS L1088 ml_X12_255 ⟨_, _, rfl⟩ (c_X12_isDigit l D dA zz bs mm r_5 hc_4) rfl ⟨Nat.le_of_ble_eq_true rfl, Nat.le_of_ble_eq_true rfl⟩ hl.1 rfl (rest := []) (Nat.le_of_ble_eq_true rfl) ⟨Nat.zero_le _, Nat.zero_le _⟩ dX12_digits_1 (fun H locs hP hS => ?_)
  refine W.eq (g2 := F0 m 4 ls [.int r_5]) rfl ?_
  refine lv_if_ne (tgt := 18) hx hb dX12_digits_4 (by decide) (fun c_6 => ?_) (fun c_6 => ?_)
  · have hf := itF hf c_6
    refine lv_aload_n hx hb dX12_digits_18 rfl (lv_at hl 0 rfl) ?_
    refine wd_getI X hP L1088 fl_X12_215 rfl dX12_digits_19 ?_
    refine lv_istore_n (lv' := [(2, .int (mm.1 1088 32)), (0, .ref (bs + 1088)), (1, .int x1)]) hx hb dX12_digits_22 rfl hl (by decide) rfl (fun ls hl => ?_)
    refine lv_iconst (v := 0) hx hb dX12_digits_23 (by decide) ?_
    refine lv_istore_n (lv' := [(3, .int (0 : Int32)), (2, .int (mm.1 1088 32)), (0, .ref (bs + 1088)), (1, .int x1)]) hx hb dX12_digits_24 rfl hl (by decide) rfl (fun ls hl => ?_)
    obtain ⟨q_20, hlp_21, hf⟩ := bi1S hf
    refine lp_walk (Wh := (fun z => match z with | (y3L_15, mmL_15) => ∀ (H : Heap) (locs : List Loc) (ls : Array Slot), Wd D dA bs LY mmL_15 H → va_S (Aq bs) s.heap H locs → lv_has ls 4 [(0, .ref (bs + 1088)), (1, .int x1), (2, .int (mm.1 1088 32)), (3, .int y3L_15)] → Wz p l e s m args below meth c D dA bs (some (.int out)) m1 2 45 H locs 25 ls [])) (Ph := (fun z => match z with | (w3_16, mm_17) => ∀ (H : Heap) (locs : List Loc) (ls : Array Slot), Wd D dA bs LY mm_17 H → va_S (Aq bs) s.heap H locs → lv_has ls 4 [(0, .ref (bs + 1088)), (1, .int x1), (2, .int (mm.1 1088 32)), (3, .int w3_16)] → Wz p l e s m args below meth c D dA bs (some (.int out)) m1 2 45 H locs 72 ls [])) ?_ hlp_21 ?_ H locs ls hP hS (lv_sub hl [2, 3, 1, 0] rfl)
    · intro z o hf hB hE
      obtain ⟨y3L_15, mmL_15⟩ := z
      intro H locs ls hP hS hl
      have hf : f_X12_digits_s25 x1 (mm.1 1088 32) (y3L_15, mmL_15) = some o := hf
      unfold f_X12_digits_s25 at hf
      dsimp only at hf
      have hJ58 : ∀ (mmJ_8 : Mm) (z0J_8 : Int32) (H : Heap) (locs : List Loc) (ls : Array Slot), f_X12_digits_j58 mmJ_8 x1 (mm.1 1088 32) z0J_8 = some o → Wd D dA bs LY mmJ_8 H → va_S (Aq bs) s.heap H locs → lv_has ls 4 [(0, .ref (bs + 1088)), (1, .int x1), (2, .int (mm.1 1088 32))] → Wz p l e s m args below meth c D dA bs (some (.int out)) m1 2 45 H locs 58 ls [.int z0J_8] := by
        intro mmJ_8 z0J_8 H locs ls hf hP hS hl
        unfold f_X12_digits_j58 at hf
        refine lv_istore_n (lv' := [(3, .int z0J_8), (0, .ref (bs + 1088)), (1, .int x1), (2, .int (mm.1 1088 32))]) hx hb dX12_digits_58 rfl hl (by decide) rfl (fun ls hl => ?_)
        refine lv_aload_n hx hb dX12_digits_59 rfl (lv_at hl 1 rfl) ?_
        refine lv_dup hx hb dX12_digits_60 rfl ?_
        refine wd_getI X hP L1088 fl_X12_215 rfl dX12_digits_61 ?_
        refine lv_iconst (v := 1) hx hb dX12_digits_64 (by decide) ?_
        refine lv_iadd hx hb dX12_digits_65 ?_
        refine wd_putI X hP hS L1088 fp_X12_215 rfl dX12_digits_66 (fun H locs mm_7 emm_7 hP hS => ?_)
        have hf := vl hf emm_7
        refine lv_goto (tgt := 25) hx hb dX12_digits_69 (by decide) ?_
        obtain rfl := Option.some.inj hf
        exact hB _ rfl H locs ls hP hS (lv_sub hl [1, 2, 3, 0] rfl)
      refine lv_aload_n hx hb dX12_digits_25 rfl (lv_at hl 0 rfl) ?_
      obtain ⟨r_10, hc_9, hf⟩ := bi1S hf
      refine wd_cv X hP hS L1088 ml_X12_255 ⟨_, _, rfl⟩ (c_X12_isDigit l D dA zz bs mmL_15 r_10 hc_9) rfl ⟨Nat.le_of_ble_eq_true rfl, Nat.le_of_ble_eq_true rfl⟩ hl.1 rfl (rest := []) (Nat.le_of_ble_eq_true rfl) ⟨Nat.zero_le _, Nat.zero_le _⟩ dX12_digits_26 (fun H locs hP hS => ?_)
      refine W.eq (g2 := F0 m 29 ls [.int r_10]) rfl ?_
      refine lv_if_eq (tgt := 72) hx hb dX12_digits_29 (by decide) (fun c_11 => ?_) (fun c_11 => ?_)
      · have hf := itT hf c_11
        obtain rfl := Option.some.inj hf
        exact hE _ rfl H locs ls hP hS (lv_sub hl [0, 1, 2, 3] rfl)
      · have hf := itF hf c_11
        refine lv_aload_n hx hb dX12_digits_32 rfl (lv_at hl 0 rfl) ?_
        refine wd_getI X hP L1088 fl_X12_215 rfl dX12_digits_33 ?_
        refine lv_iload_n hx hb dX12_digits_36 rfl (lv_at hl 2 rfl) ?_
        refine lv_isub hx hb dX12_digits_37 ?_
        refine lv_iconst (v := 5) hx hb dX12_digits_38 (by decide) ?_
        refine lv_icmp_ge (tgt := 57) hx hb dX12_digits_39 (by decide) (fun c_12 => ?_) (fun c_12 => ?_)
        · have hf := itT hf c_12
          refine lv_iload_n hx hb dX12_digits_57 rfl (lv_at hl 3 rfl) ?_
          exact hJ58 mmL_15 y3L_15 H locs ls hf hP hS (lv_sub hl [0, 1, 2] rfl)
        · have hf := itF hf c_12
          refine lv_bipush (v := 10) hx hb dX12_digits_42 (by decide) ?_
          refine lv_iload_n hx hb dX12_digits_44 rfl (lv_at hl 3 rfl) ?_
          refine lv_imul hx hb dX12_digits_45 ?_
          refine lv_aload_n hx hb dX12_digits_46 rfl (lv_at hl 0 rfl) ?_
          obtain ⟨r_14, hc_13, hf⟩ := bi1S hf
          refine wd_cv X hP hS L1088 ml_X12_218 ⟨_, _, rfl⟩ (c_X12_sign l D dA zz bs mmL_15 r_14 hc_13) rfl ⟨Nat.le_of_ble_eq_true rfl, Nat.le_of_ble_eq_true rfl⟩ hl.1 rfl (rest := [.int ((10 : Int32) * y3L_15)]) (Nat.le_of_ble_eq_true rfl) ⟨Nat.zero_le _, Nat.zero_le _⟩ dX12_digits_47 (fun H locs hP hS => ?_)
          refine W.eq (g2 := F0 m 50 ls [.int r_14, .int ((10 : Int32) * y3L_15)]) rfl ?_
          refine lv_iadd hx hb dX12_digits_50 ?_
          refine lv_bipush (v := 48) hx hb dX12_digits_51 (by decide) ?_
          refine lv_isub hx hb dX12_digits_53 ?_
          refine lv_goto (tgt := 58) hx hb dX12_digits_54 (by decide) ?_
          exact hJ58 mmL_15 ((((10 : Int32) * y3L_15) + r_14) - (48 : Int32)) H locs ls hf hP hS (lv_sub hl [0, 1, 2] rfl)
    · obtain ⟨w3_16, mm_17⟩ := q_20
      dsimp only at hf
      intro H locs ls hP hS hl
      refine lv_aload_n hx hb dX12_digits_72 rfl (lv_at hl 0 rfl) ?_
      refine wd_getI X hP L1088 fl_X12_215 rfl dX12_digits_73 ?_
      refine lv_iload_n hx hb dX12_digits_76 rfl (lv_at hl 2 rfl) ?_
      refine lv_isub hx hb dX12_digits_77 ?_
      refine lv_iconst (v := 5) hx hb dX12_digits_78 (by decide) ?_
      refine lv_icmp_gt (tgt := 87) hx hb dX12_digits_79 (by decide) (fun c_18 => ?_) (fun c_18 => ?_)
      · have hf := itT hf c_18
        exact hJ87 mm_17 (mm.1 1088 32) w3_16 H locs ls hf hP hS (lv_sub hl [0, 2, 3] rfl)
      · have hf := itF hf c_18
        refine lv_iload_n hx hb dX12_digits_82 rfl (lv_at hl 3 rfl) ?_
        refine lv_iload_n hx hb dX12_digits_83 rfl (lv_at hl 1 rfl) ?_
        refine lv_icmp_le (tgt := 93) hx hb dX12_digits_84 (by decide) (fun c_19 => ?_) (fun c_19 => ?_)
        · have hf := itT hf c_19
          refine lv_iload_n hx hb dX12_digits_93 rfl (lv_at hl 3 rfl) ?_
          obtain ⟨rfl, rfl⟩ := Prod.mk.inj (Option.some.inj hf)
          exact wd_iret X hP hS hr0 dX12_digits_94 ⟨rfl, rfl⟩
        · have hf := itF hf c_19
          exact hJ87 mm_17 (mm.1 1088 32) w3_16 H locs ls hf hP hS (lv_sub hl [0, 2, 3] rfl)
  · have hf := itT hf c_6
    refine lv_aload_n hx hb dX12_digits_7 rfl (lv_at hl 0 rfl) ?_
    refine lv_iconst (v := 0) hx hb dX12_digits_8 (by decide) ?_
    refine lv_aload_n hx hb dX12_digits_9 rfl (lv_at hl 0 rfl) ?_
    refine wd_getI X hP L1088 fl_X12_215 rfl dX12_digits_10 ?_
    obtain ⟨mm_22, hc_23, hf⟩ := bi1S hf
    refine wd_cv X hP hS L1088 ml_X12_251 ⟨_, _, rfl⟩ (c_X12_fails l D dA zz bs mm (0 : Int32) (mm.1 1088 32) mm_22 hc_23) rfl ⟨Nat.le_of_ble_eq_true rfl, Nat.le_of_ble_eq_true rfl⟩ hl.1 rfl (rest := []) (Nat.le_of_ble_eq_true rfl) ⟨Nat.zero_le _, Nat.zero_le _⟩ dX12_digits_13 (fun H locs hP hS => ?_)
    refine W.eq (g2 := F0 m 16 ls []) rfl ?_
    refine lv_iconst (v := 0) hx hb dX12_digits_16 (by decide) ?_
    obtain ⟨rfl, rfl⟩ := Prod.mk.inj (Option.some.inj hf)
    exact wd_iret X hP hS hr0 dX12_digits_17 ⟨rfl, rfl⟩

noncomputable def f_X12_value_s38 (mm : Mm) (y1 : Int32) : (Int32) → Option ((Int32) ⊕ (Int32)) :=
  fun (y2 : Int32) =>
    if (mm.1 1088 40) ≤ y2 then
      some (.inr y2)
    else
      bi1 (f_X12_stood mm (f_X12_wordOf y2)) fun r_8 =>
        if r_8 = 0 then
          some (.inl (y2 + 1))
        else
          some (.inr y2)
noncomputable def f_X12_value (mm : Mm) : Option (Mm) :=
  bi1 (f_X12_blanks mm) fun mm_1 =>
    bi1 (f_X12_isDigit mm_1) fun r_4 =>
      if r_4 = 0 then
        bi1 (lp (f_X12_value_s38 mm_1 (mm_1.1 1088 32)) (0 : Int32)) fun w2_11 =>
          if w2_11 = (mm_1.1 1088 40) then
            bi1 (f_X12_fails mm_1 (0 : Int32) (mm_1.1 1088 32)) fun mm_18 => some mm_18
          else
            bi1 (f_X12_isCounted mm_1 (mm_1.1 1088 32)) fun mm_13 =>
              vlet (wI mm_13 1088 32 ((mm_13.1 1088 32) + (sLn (f_X12_wordOf w2_11)))) fun mm_15 =>
                bi1 (f_X12_entry mm_15 (1 : Int32) w2_11) fun mm_16 => some mm_16
      else
        bi2 (f_X12_digits mm_1 (99999 : Int32)) fun r_24 mm_22 =>
          bi1 (f_X12_isCounted mm_22 (mm_1.1 1088 32)) fun mm_25 =>
            bi1 (f_X12_entry mm_25 (0 : Int32) r_24) fun mm_27 => some mm_27
set_option maxHeartbeats 4000000 in
set_option maxRecDepth 100000 in
theorem c_X12_value (l : Launch) (D : va_G) (dA : Nat → ClassId) (zz : (Nat → Nat) × (Nat → Nat)) (bs : Nat) (mm : Mm) (m1 : Mm) (hf : f_X12_value mm = some m1) : Mw l D dA zz bs LY yX12_value cX12_value 3 none 5 109 [.ref (bs + 1088)] mm none m1 := by
  refine Mw.of (own := RX12) (by decide) rfl (Nat.le_of_ble_eq_true rfl) ?_
  intro p e s m args below meth c X hr0 hP hS ls hl
  have hx := X.1
  have hb := X.2.1
  obtain ⟨H, hH⟩ : ∃ z : Heap, z = s.heap := ⟨_, rfl⟩
  obtain ⟨locs, hL⟩ : ∃ z : List Loc, z = [] := ⟨_, rfl⟩
  rw [← hH, ← hL]
  have hS : va_S (Aq bs) s.heap H locs := by rw [hH, hL]; exact hS
  have hP : Wd D dA bs LY mm H := by rw [hH]; exact hP
  have hl : lv_has ls 3 [(0, .ref (bs + 1088))] := hl
  unfold f_X12_value at hf
  refine lv_aload_n hx hb dX12_value_0 rfl (lv_at hl 0 rfl) ?_
  obtain ⟨mm_1, hc_2, hf⟩ := bi1S hf
  refine wd_cv X hP hS L1088 ml_X12_235 ⟨_, _, rfl⟩ (c_X12_blanks l D dA zz bs mm mm_1 hc_2) rfl ⟨Nat.le_of_ble_eq_true rfl, Nat.le_of_ble_eq_true rfl⟩ hl.1 rfl (rest := []) (Nat.le_of_ble_eq_true rfl) ⟨Nat.zero_le _, Nat.zero_le _⟩ dX12_value_1 (fun H locs hP hS => ?_)
  refine W.eq (g2 := F0 m 4 ls []) rfl ?_
  refine lv_aload_n hx hb dX12_value_4 rfl (lv_at hl 0 rfl) ?_
  refine wd_getI X hP L1088 fl_X12_215 rfl dX12_value_5 ?_
  refine lv_istore_n (lv' := [(1, .int (mm_1.1 1088 32)), (0, .ref (bs + 1088))]) hx hb dX12_value_8 rfl hl (by decide) rfl (fun ls hl => ?_)
  refine lv_aload_n hx hb dX12_value_9 rfl (lv_at hl 1 rfl) ?_
  obtain ⟨r_4, hc_3, hf⟩ := bi1S hf
  refine wd_cv X hP hS L1088 ml_X12_255 ⟨_, _, rfl⟩ (c_X12_isDigit l D dA zz bs mm_1 r_4 hc_3) rfl ⟨Nat.le_of_ble_eq_true rfl, Nat.le_of_ble_eq_true rfl⟩ hl.1 rfl (rest := []) (Nat.le_of_ble_eq_true rfl) ⟨Nat.zero_le _, Nat.zero_le _⟩ dX12_value_10 (fun H locs hP hS => ?_)
  refine W.eq (g2 := F0 m 13 ls [.int r_4]) rfl ?_
  refine lv_if_eq (tgt := 36) hx hb dX12_value_13 (by decide) (fun c_5 => ?_) (fun c_5 => ?_)
  · have hf := itT hf c_5
    refine lv_iconst (v := 0) hx hb dX12_value_36 (by decide) ?_
    refine lv_istore_n (lv' := [(2, .int (0 : Int32)), (1, .int (mm_1.1 1088 32)), (0, .ref (bs + 1088))]) hx hb dX12_value_37 rfl hl (by decide) rfl (fun ls hl => ?_)
    obtain ⟨q_20, hlp_21, hf⟩ := bi1S hf
    refine lp_walk (Wh := (fun y2L_10 => ∀ (H : Heap) (locs : List Loc) (ls : Array Slot), Wd D dA bs LY mm_1 H → va_S (Aq bs) s.heap H locs → lv_has ls 3 [(0, .ref (bs + 1088)), (1, .int (mm_1.1 1088 32)), (2, .int y2L_10)] → Wz p l e s m args below meth c D dA bs none m1 5 109 H locs 38 ls [])) (Ph := (fun w2_11 => ∀ (H : Heap) (locs : List Loc) (ls : Array Slot), Wd D dA bs LY mm_1 H → va_S (Aq bs) s.heap H locs → lv_has ls 3 [(0, .ref (bs + 1088)), (1, .int (mm_1.1 1088 32)), (2, .int w2_11)] → Wz p l e s m args below meth c D dA bs none m1 5 109 H locs 63 ls [])) ?_ hlp_21 ?_ H locs ls hP hS (lv_sub hl [2, 1, 0] rfl)
    · intro y2L_10 o hf hB hE
      intro H locs ls hP hS hl
      have hf : f_X12_value_s38 mm_1 (mm_1.1 1088 32) y2L_10 = some o := hf
      unfold f_X12_value_s38 at hf
      refine lv_iload_n hx hb dX12_value_38 rfl (lv_at hl 2 rfl) ?_
      refine lv_aload_n hx hb dX12_value_39 rfl (lv_at hl 0 rfl) ?_
      refine wd_getI X hP L1088 fl_X12_100 rfl dX12_value_40 ?_
      refine lv_icmp_ge (tgt := 63) hx hb dX12_value_43 (by decide) (fun c_6 => ?_) (fun c_6 => ?_)
      · have hf := itT hf c_6
        obtain rfl := Option.some.inj hf
        exact hE _ rfl H locs ls hP hS (lv_sub hl [0, 1, 2] rfl)
      · have hf := itF hf c_6
        refine lv_aload_n hx hb dX12_value_46 rfl (lv_at hl 0 rfl) ?_
        refine lv_iload_n hx hb dX12_value_47 rfl (lv_at hl 2 rfl) ?_
        refine wd_cs X hP hS ml_X12_270 (c_X12_wordOf l D dA zz bs mm_1 y2L_10 (f_X12_wordOf y2L_10) rfl) rfl ⟨Nat.le_of_ble_eq_true rfl, Nat.le_of_ble_eq_true rfl⟩ hl.1 rfl (rest := [.ref (bs + 1088)]) (Nat.le_of_ble_eq_true rfl) ⟨Nat.zero_le _, Nat.zero_le _⟩ dX12_value_48 (fun H locs hP hS => ?_)
        refine W.eq (g2 := F0 m 51 ls [.ref (zz.1 (f_X12_wordOf y2L_10)), .ref (bs + 1088)]) rfl ?_
        obtain ⟨r_8, hc_7, hf⟩ := bi1S hf
        refine wd_cv X hP hS L1088 ml_X12_238 ⟨_, _, rfl⟩ (c_X12_stood l D dA zz bs mm_1 (f_X12_wordOf y2L_10) (lt_X12_wordOf y2L_10) r_8 hc_7) rfl ⟨Nat.le_of_ble_eq_true rfl, Nat.le_of_ble_eq_true rfl⟩ hl.1 rfl (rest := []) (Nat.le_of_ble_eq_true rfl) ⟨Nat.zero_le _, Nat.zero_le _⟩ dX12_value_51 (fun H locs hP hS => ?_)
        refine W.eq (g2 := F0 m 54 ls [.int r_8]) rfl ?_
        refine lv_if_ne (tgt := 63) hx hb dX12_value_54 (by decide) (fun c_9 => ?_) (fun c_9 => ?_)
        · have hf := itF hf c_9
          obtain rfl := Option.some.inj hf
          exact hE _ rfl H locs ls hP hS (lv_sub hl [0, 1, 2] rfl)
        · have hf := itT hf c_9
          refine lv_iinc (v := (y2L_10 + 1)) (lv' := [(2, .int (y2L_10 + 1)), (0, .ref (bs + 1088)), (1, .int (mm_1.1 1088 32))]) hx hb dX12_value_57 hl (k := 2) rfl rfl (by decide) rfl (fun ls hl => ?_)
          refine lv_goto (tgt := 38) hx hb dX12_value_60 (by decide) ?_
          obtain rfl := Option.some.inj hf
          exact hB _ rfl H locs ls hP hS (lv_sub hl [1, 2, 0] rfl)
    · obtain ⟨w2_11, e_w2_11⟩ : ∃ z, z = q_20 := ⟨_, rfl⟩
      subst e_w2_11
      intro H locs ls hP hS hl
      refine lv_iload_n hx hb dX12_value_63 rfl (lv_at hl 2 rfl) ?_
      refine lv_aload_n hx hb dX12_value_64 rfl (lv_at hl 0 rfl) ?_
      refine wd_getI X hP L1088 fl_X12_100 rfl dX12_value_65 ?_
      refine lv_icmp_ne (tgt := 78) hx hb dX12_value_68 (by decide) (fun c_12 => ?_) (fun c_12 => ?_)
      · have hf := itF hf c_12
        refine lv_aload_n hx hb dX12_value_78 rfl (lv_at hl 0 rfl) ?_
        refine lv_iload_n hx hb dX12_value_79 rfl (lv_at hl 1 rfl) ?_
        obtain ⟨mm_13, hc_14, hf⟩ := bi1S hf
        refine wd_cv X hP hS L1088 ml_X12_264 ⟨_, _, rfl⟩ (c_X12_isCounted l D dA zz bs mm_1 (mm_1.1 1088 32) mm_13 hc_14) rfl ⟨Nat.le_of_ble_eq_true rfl, Nat.le_of_ble_eq_true rfl⟩ hl.1 rfl (rest := []) (Nat.le_of_ble_eq_true rfl) ⟨Nat.zero_le _, Nat.zero_le _⟩ dX12_value_80 (fun H locs hP hS => ?_)
        refine W.eq (g2 := F0 m 83 ls []) rfl ?_
        refine lv_aload_n hx hb dX12_value_83 rfl (lv_at hl 0 rfl) ?_
        refine lv_dup hx hb dX12_value_84 rfl ?_
        refine wd_getI X hP L1088 fl_X12_215 rfl dX12_value_85 ?_
        refine lv_iload_n hx hb dX12_value_88 rfl (lv_at hl 2 rfl) ?_
        refine wd_cs X hP hS ml_X12_270 (c_X12_wordOf l D dA zz bs mm_13 w2_11 (f_X12_wordOf w2_11) rfl) rfl ⟨Nat.le_of_ble_eq_true rfl, Nat.le_of_ble_eq_true rfl⟩ hl.1 rfl (rest := [.int (mm_13.1 1088 32), .ref (bs + 1088)]) (Nat.le_of_ble_eq_true rfl) ⟨Nat.zero_le _, Nat.zero_le _⟩ dX12_value_89 (fun H locs hP hS => ?_)
        refine W.eq (g2 := F0 m 92 ls [.ref (zz.1 (f_X12_wordOf w2_11)), .int (mm_13.1 1088 32), .ref (bs + 1088)]) rfl ?_
        refine wd_cr X hP hS (vk_recv X.2.2.2.2.2.2.1.1 (lt_X12_wordOf w2_11) hS) ml_X12_226 (c_length l D dA zz bs mm_13 (lt_X12_wordOf w2_11)) rfl ⟨Nat.le_of_ble_eq_true rfl, Nat.le_of_ble_eq_true rfl⟩ hl.1 rfl (rest := [.int (mm_13.1 1088 32), .ref (bs + 1088)]) (Nat.le_of_ble_eq_true rfl) ⟨Nat.zero_le _, Nat.zero_le _⟩ dX12_value_92 (fun H locs hP hS => ?_)
        refine W.eq (g2 := F0 m 95 ls [.int (sLn (f_X12_wordOf w2_11)), .int (mm_13.1 1088 32), .ref (bs + 1088)]) rfl ?_
        refine lv_iadd hx hb dX12_value_95 ?_
        refine wd_putI X hP hS L1088 fp_X12_215 rfl dX12_value_96 (fun H locs mm_15 emm_15 hP hS => ?_)
        have hf := vl hf emm_15
        refine lv_aload_n hx hb dX12_value_99 rfl (lv_at hl 0 rfl) ?_
        refine lv_iconst (v := 1) hx hb dX12_value_100 (by decide) ?_
        refine lv_iload_n hx hb dX12_value_101 rfl (lv_at hl 2 rfl) ?_
        obtain ⟨mm_16, hc_17, hf⟩ := bi1S hf
        refine wd_cv X hP hS L1088 ml_X12_267 ⟨_, _, rfl⟩ (c_X12_entry l D dA zz bs mm_15 (1 : Int32) w2_11 mm_16 hc_17) rfl ⟨Nat.le_of_ble_eq_true rfl, Nat.le_of_ble_eq_true rfl⟩ hl.1 rfl (rest := []) (Nat.le_of_ble_eq_true rfl) ⟨Nat.zero_le _, Nat.zero_le _⟩ dX12_value_102 (fun H locs hP hS => ?_)
        refine W.eq (g2 := F0 m 105 ls []) rfl ?_
        obtain rfl := Option.some.inj hf
        exact wd_vret X hP hS hr0 dX12_value_105 ⟨rfl, rfl⟩
      · have hf := itT hf c_12
        refine lv_aload_n hx hb dX12_value_71 rfl (lv_at hl 0 rfl) ?_
        refine lv_iconst (v := 0) hx hb dX12_value_72 (by decide) ?_
        refine lv_iload_n hx hb dX12_value_73 rfl (lv_at hl 1 rfl) ?_
        obtain ⟨mm_18, hc_19, hf⟩ := bi1S hf
        refine wd_cv X hP hS L1088 ml_X12_251 ⟨_, _, rfl⟩ (c_X12_fails l D dA zz bs mm_1 (0 : Int32) (mm_1.1 1088 32) mm_18 hc_19) rfl ⟨Nat.le_of_ble_eq_true rfl, Nat.le_of_ble_eq_true rfl⟩ hl.1 rfl (rest := []) (Nat.le_of_ble_eq_true rfl) ⟨Nat.zero_le _, Nat.zero_le _⟩ dX12_value_74 (fun H locs hP hS => ?_)
        refine W.eq (g2 := F0 m 77 ls []) rfl ?_
        obtain rfl := Option.some.inj hf
        exact wd_vret X hP hS hr0 dX12_value_77 ⟨rfl, rfl⟩
  · have hf := itF hf c_5
    refine lv_aload_n hx hb dX12_value_16 rfl (lv_at hl 1 rfl) ?_
    refine lv_ldcw (own := RX12) (v := 99999) hx hb X.2.2.2.1 (X.2.2.2.2.1 _ (tb_at 1428 (by decide +kernel) (by decide +kernel))) dX12_value_17 ?_
    obtain ⟨r_24, mm_22, hc_23, hf⟩ := bi2S hf
    refine wd_cv X hP hS L1088 ml_X12_260 ⟨_, _, rfl⟩ (c_X12_digits l D dA zz bs mm_1 (99999 : Int32) r_24 mm_22 hc_23) rfl ⟨Nat.le_of_ble_eq_true rfl, Nat.le_of_ble_eq_true rfl⟩ hl.1 rfl (rest := []) (Nat.le_of_ble_eq_true rfl) ⟨Nat.zero_le _, Nat.zero_le _⟩ dX12_value_20 (fun H locs hP hS => ?_)
    refine W.eq (g2 := F0 m 23 ls [.int r_24]) rfl ?_
    refine lv_istore_n (lv' := [(2, .int r_24), (1, .int (mm_1.1 1088 32)), (0, .ref (bs + 1088))]) hx hb dX12_value_23 rfl hl (by decide) rfl (fun ls hl => ?_)
    refine lv_aload_n hx hb dX12_value_24 rfl (lv_at hl 2 rfl) ?_
    refine lv_iload_n hx hb dX12_value_25 rfl (lv_at hl 1 rfl) ?_
    obtain ⟨mm_25, hc_26, hf⟩ := bi1S hf
    refine wd_cv X hP hS L1088 ml_X12_264 ⟨_, _, rfl⟩ (c_X12_isCounted l D dA zz bs mm_22 (mm_1.1 1088 32) mm_25 hc_26) rfl ⟨Nat.le_of_ble_eq_true rfl, Nat.le_of_ble_eq_true rfl⟩ hl.1 rfl (rest := []) (Nat.le_of_ble_eq_true rfl) ⟨Nat.zero_le _, Nat.zero_le _⟩ dX12_value_26 (fun H locs hP hS => ?_)
    refine W.eq (g2 := F0 m 29 ls []) rfl ?_
    refine lv_aload_n hx hb dX12_value_29 rfl (lv_at hl 2 rfl) ?_
    refine lv_iconst (v := 0) hx hb dX12_value_30 (by decide) ?_
    refine lv_iload_n hx hb dX12_value_31 rfl (lv_at hl 0 rfl) ?_
    obtain ⟨mm_27, hc_28, hf⟩ := bi1S hf
    refine wd_cv X hP hS L1088 ml_X12_267 ⟨_, _, rfl⟩ (c_X12_entry l D dA zz bs mm_25 (0 : Int32) r_24 mm_27 hc_28) rfl ⟨Nat.le_of_ble_eq_true rfl, Nat.le_of_ble_eq_true rfl⟩ hl.1 rfl (rest := []) (Nat.le_of_ble_eq_true rfl) ⟨Nat.zero_le _, Nat.zero_le _⟩ dX12_value_32 (fun H locs hP hS => ?_)
    refine W.eq (g2 := F0 m 35 ls []) rfl ?_
    obtain rfl := Option.some.inj hf
    exact wd_vret X hP hS hr0 dX12_value_35 ⟨rfl, rfl⟩

noncomputable def f_X12_term_j72 (mm : Mm) (z0 : Int32) : Option ((Mm) ⊕ (Mm)) :=
  vlet (wI mm 1088 32 ((mm.1 1088 32) + (1 : Int32))) fun mm_5 =>
    bi1 (f_X12_value mm_5) fun mm_6 =>
      bi1 (f_X12_entry mm_6 z0 (0 : Int32)) fun mm_8 => bi1 (f_X12_blanks mm_8) fun mm_10 => some (.inl mm_10)
noncomputable def f_X12_term_j42 (mm : Mm) : Option ((Mm) ⊕ (Mm)) :=
  bi1 (f_X12_sign mm) fun r_14 =>
    if r_14 = (42 : Int32) then
      f_X12_term_j72 mm (13 : Int32)
    else
      bi1 (f_X12_sign mm) fun r_17 =>
        if r_17 = (47 : Int32) then
          f_X12_term_j72 mm (14 : Int32)
        else
          f_X12_term_j72 mm (15 : Int32)
noncomputable def f_X12_term_s8  : (Mm) → Option ((Mm) ⊕ (Mm)) :=
  fun (mm : Mm) =>
    if (mm.1 1088 33) = 0 then
      bi1 (f_X12_sign mm) fun r_22 =>
        if r_22 = (42 : Int32) then
          f_X12_term_j42 mm
        else
          bi1 (f_X12_sign mm) fun r_25 =>
            if r_25 = (47 : Int32) then
              f_X12_term_j42 mm
            else
              bi1 (f_X12_sign mm) fun r_28 =>
                if r_28 = (37 : Int32) then
                  f_X12_term_j42 mm
                else
                  some (.inr mm)
    else
      some (.inr mm)
noncomputable def f_X12_term (mm : Mm) : Option (Mm) :=
  bi1 (f_X12_value mm) fun mm_1 =>
    bi1 (f_X12_blanks mm_1) fun mm_3 =>
      bi1 (lp (f_X12_term_s8) mm_3) fun mm_31 =>
        some mm_31
set_option maxHeartbeats 4000000 in
set_option maxRecDepth 100000 in
theorem c_X12_term (l : Launch) (D : va_G) (dA : Nat → ClassId) (zz : (Nat → Nat) × (Nat → Nat)) (bs : Nat) (mm : Mm) (m1 : Mm) (hf : f_X12_term mm = some m1) : Mw l D dA zz bs LY yX12_term cX12_term 2 none 6 131 [.ref (bs + 1088)] mm none m1 := by
  refine Mw.of (own := RX12) (by decide) rfl (Nat.le_of_ble_eq_true rfl) ?_
  intro p e s m args below meth c X hr0 hP hS ls hl
  have hx := X.1
  have hb := X.2.1
  obtain ⟨H, hH⟩ : ∃ z : Heap, z = s.heap := ⟨_, rfl⟩
  obtain ⟨locs, hL⟩ : ∃ z : List Loc, z = [] := ⟨_, rfl⟩
  rw [← hH, ← hL]
  have hS : va_S (Aq bs) s.heap H locs := by rw [hH, hL]; exact hS
  have hP : Wd D dA bs LY mm H := by rw [hH]; exact hP
  have hl : lv_has ls 2 [(0, .ref (bs + 1088))] := hl
  unfold f_X12_term at hf
  refine lv_aload_n hx hb dX12_term_0 rfl (lv_at hl 0 rfl) ?_
  obtain ⟨mm_1, hc_2, hf⟩ := bi1S hf
  refine wd_cv X hP hS L1088 ml_X12_274 ⟨_, _, rfl⟩ (c_X12_value l D dA zz bs mm mm_1 hc_2) rfl ⟨Nat.le_of_ble_eq_true rfl, Nat.le_of_ble_eq_true rfl⟩ hl.1 rfl (rest := []) (Nat.le_of_ble_eq_true rfl) ⟨Nat.zero_le _, Nat.zero_le _⟩ dX12_term_1 (fun H locs hP hS => ?_)
  refine W.eq (g2 := F0 m 4 ls []) rfl ?_
  refine lv_aload_n hx hb dX12_term_4 rfl (lv_at hl 0 rfl) ?_
  obtain ⟨mm_3, hc_4, hf⟩ := bi1S hf
  refine wd_cv X hP hS L1088 ml_X12_235 ⟨_, _, rfl⟩ (c_X12_blanks l D dA zz bs mm_1 mm_3 hc_4) rfl ⟨Nat.le_of_ble_eq_true rfl, Nat.le_of_ble_eq_true rfl⟩ hl.1 rfl (rest := []) (Nat.le_of_ble_eq_true rfl) ⟨Nat.zero_le _, Nat.zero_le _⟩ dX12_term_5 (fun H locs hP hS => ?_)
  refine W.eq (g2 := F0 m 8 ls []) rfl ?_
  obtain ⟨q_32, hlp_33, hf⟩ := bi1S hf
  refine lp_walk (Wh := (fun mmL_30 => ∀ (H : Heap) (locs : List Loc) (ls : Array Slot), Wd D dA bs LY mmL_30 H → va_S (Aq bs) s.heap H locs → lv_has ls 2 [(0, .ref (bs + 1088))] → Wz p l e s m args below meth c D dA bs none m1 6 131 H locs 8 ls [])) (Ph := (fun mm_31 => ∀ (H : Heap) (locs : List Loc) (ls : Array Slot), Wd D dA bs LY mm_31 H → va_S (Aq bs) s.heap H locs → lv_has ls 2 [] → Wz p l e s m args below meth c D dA bs none m1 6 131 H locs 100 ls [])) ?_ hlp_33 ?_ H locs ls hP hS (lv_sub hl [0] rfl)
  · intro mmL_30 o hf hB hE
    intro H locs ls hP hS hl
    have hf : f_X12_term_s8 mmL_30 = some o := hf
    unfold f_X12_term_s8 at hf
    have hJ72 : ∀ (mmJ_12 : Mm) (z0J_12 : Int32) (H : Heap) (locs : List Loc) (ls : Array Slot), f_X12_term_j72 mmJ_12 z0J_12 = some o → Wd D dA bs LY mmJ_12 H → va_S (Aq bs) s.heap H locs → lv_has ls 2 [(0, .ref (bs + 1088))] → Wz p l e s m args below meth c D dA bs none m1 6 131 H locs 72 ls [.int z0J_12] := by
      intro mmJ_12 z0J_12 H locs ls hf hP hS hl
      unfold f_X12_term_j72 at hf
      refine lv_istore_n (lv' := [(1, .int z0J_12), (0, .ref (bs + 1088))]) hx hb dX12_term_72 rfl hl (by decide) rfl (fun ls hl => ?_)
      refine lv_aload_n hx hb dX12_term_73 rfl (lv_at hl 1 rfl) ?_
      refine lv_dup hx hb dX12_term_74 rfl ?_
      refine wd_getI X hP L1088 fl_X12_215 rfl dX12_term_75 ?_
      refine lv_iconst (v := 1) hx hb dX12_term_78 (by decide) ?_
      refine lv_iadd hx hb dX12_term_79 ?_
      refine wd_putI X hP hS L1088 fp_X12_215 rfl dX12_term_80 (fun H locs mm_5 emm_5 hP hS => ?_)
      have hf := vl hf emm_5
      refine lv_aload_n hx hb dX12_term_83 rfl (lv_at hl 1 rfl) ?_
      obtain ⟨mm_6, hc_7, hf⟩ := bi1S hf
      refine wd_cv X hP hS L1088 ml_X12_274 ⟨_, _, rfl⟩ (c_X12_value l D dA zz bs mm_5 mm_6 hc_7) rfl ⟨Nat.le_of_ble_eq_true rfl, Nat.le_of_ble_eq_true rfl⟩ hl.1 rfl (rest := []) (Nat.le_of_ble_eq_true rfl) ⟨Nat.zero_le _, Nat.zero_le _⟩ dX12_term_84 (fun H locs hP hS => ?_)
      refine W.eq (g2 := F0 m 87 ls []) rfl ?_
      refine lv_aload_n hx hb dX12_term_87 rfl (lv_at hl 1 rfl) ?_
      refine lv_iload_n hx hb dX12_term_88 rfl (lv_at hl 0 rfl) ?_
      refine lv_iconst (v := 0) hx hb dX12_term_89 (by decide) ?_
      obtain ⟨mm_8, hc_9, hf⟩ := bi1S hf
      refine wd_cv X hP hS L1088 ml_X12_267 ⟨_, _, rfl⟩ (c_X12_entry l D dA zz bs mm_6 z0J_12 (0 : Int32) mm_8 hc_9) rfl ⟨Nat.le_of_ble_eq_true rfl, Nat.le_of_ble_eq_true rfl⟩ hl.1 rfl (rest := []) (Nat.le_of_ble_eq_true rfl) ⟨Nat.zero_le _, Nat.zero_le _⟩ dX12_term_90 (fun H locs hP hS => ?_)
      refine W.eq (g2 := F0 m 93 ls []) rfl ?_
      refine lv_aload_n hx hb dX12_term_93 rfl (lv_at hl 1 rfl) ?_
      obtain ⟨mm_10, hc_11, hf⟩ := bi1S hf
      refine wd_cv X hP hS L1088 ml_X12_235 ⟨_, _, rfl⟩ (c_X12_blanks l D dA zz bs mm_8 mm_10 hc_11) rfl ⟨Nat.le_of_ble_eq_true rfl, Nat.le_of_ble_eq_true rfl⟩ hl.1 rfl (rest := []) (Nat.le_of_ble_eq_true rfl) ⟨Nat.zero_le _, Nat.zero_le _⟩ dX12_term_94 (fun H locs hP hS => ?_)
      refine W.eq (g2 := F0 m 97 ls []) rfl ?_
      refine lv_goto (tgt := 8) hx hb dX12_term_97 (by decide) ?_
      obtain rfl := Option.some.inj hf
      exact hB _ rfl H locs ls hP hS (lv_sub hl [1] rfl)
    have hJ42 : ∀ (mmJ_19 : Mm) (H : Heap) (locs : List Loc) (ls : Array Slot), f_X12_term_j42 mmJ_19 = some o → Wd D dA bs LY mmJ_19 H → va_S (Aq bs) s.heap H locs → lv_has ls 2 [(0, .ref (bs + 1088))] → Wz p l e s m args below meth c D dA bs none m1 6 131 H locs 42 ls [] := by
      intro mmJ_19 H locs ls hf hP hS hl
      unfold f_X12_term_j42 at hf
      refine lv_aload_n hx hb dX12_term_42 rfl (lv_at hl 0 rfl) ?_
      obtain ⟨r_14, hc_13, hf⟩ := bi1S hf
      refine wd_cv X hP hS L1088 ml_X12_218 ⟨_, _, rfl⟩ (c_X12_sign l D dA zz bs mmJ_19 r_14 hc_13) rfl ⟨Nat.le_of_ble_eq_true rfl, Nat.le_of_ble_eq_true rfl⟩ hl.1 rfl (rest := []) (Nat.le_of_ble_eq_true rfl) ⟨Nat.zero_le _, Nat.zero_le _⟩ dX12_term_43 (fun H locs hP hS => ?_)
      refine W.eq (g2 := F0 m 46 ls [.int r_14]) rfl ?_
      refine lv_bipush (v := 42) hx hb dX12_term_46 (by decide) ?_
      refine lv_icmp_ne (tgt := 56) hx hb dX12_term_48 (by decide) (fun c_15 => ?_) (fun c_15 => ?_)
      · have hf := itF hf c_15
        refine lv_aload_n hx hb dX12_term_56 rfl (lv_at hl 0 rfl) ?_
        obtain ⟨r_17, hc_16, hf⟩ := bi1S hf
        refine wd_cv X hP hS L1088 ml_X12_218 ⟨_, _, rfl⟩ (c_X12_sign l D dA zz bs mmJ_19 r_17 hc_16) rfl ⟨Nat.le_of_ble_eq_true rfl, Nat.le_of_ble_eq_true rfl⟩ hl.1 rfl (rest := []) (Nat.le_of_ble_eq_true rfl) ⟨Nat.zero_le _, Nat.zero_le _⟩ dX12_term_57 (fun H locs hP hS => ?_)
        refine W.eq (g2 := F0 m 60 ls [.int r_17]) rfl ?_
        refine lv_bipush (v := 47) hx hb dX12_term_60 (by decide) ?_
        refine lv_icmp_ne (tgt := 70) hx hb dX12_term_62 (by decide) (fun c_18 => ?_) (fun c_18 => ?_)
        · have hf := itF hf c_18
          refine lv_bipush (v := 15) hx hb dX12_term_70 (by decide) ?_
          exact hJ72 mmJ_19 (15 : Int32) H locs ls hf hP hS (lv_sub hl [0] rfl)
        · have hf := itT hf c_18
          refine lv_bipush (v := 14) hx hb dX12_term_65 (by decide) ?_
          refine lv_goto (tgt := 72) hx hb dX12_term_67 (by decide) ?_
          exact hJ72 mmJ_19 (14 : Int32) H locs ls hf hP hS (lv_sub hl [0] rfl)
      · have hf := itT hf c_15
        refine lv_bipush (v := 13) hx hb dX12_term_51 (by decide) ?_
        refine lv_goto (tgt := 72) hx hb dX12_term_53 (by decide) ?_
        exact hJ72 mmJ_19 (13 : Int32) H locs ls hf hP hS (lv_sub hl [0] rfl)
    refine lv_aload_n hx hb dX12_term_8 rfl (lv_at hl 0 rfl) ?_
    refine wd_getI X hP L1088 fl_X12_212 rfl dX12_term_9 ?_
    refine lv_if_ne (tgt := 100) hx hb dX12_term_12 (by decide) (fun c_20 => ?_) (fun c_20 => ?_)
    · have hf := itF hf c_20
      obtain rfl := Option.some.inj hf
      exact hE _ rfl H locs ls hP hS (lv_sub hl [] rfl)
    · have hf := itT hf c_20
      refine lv_aload_n hx hb dX12_term_15 rfl (lv_at hl 0 rfl) ?_
      obtain ⟨r_22, hc_21, hf⟩ := bi1S hf
      refine wd_cv X hP hS L1088 ml_X12_218 ⟨_, _, rfl⟩ (c_X12_sign l D dA zz bs mmL_30 r_22 hc_21) rfl ⟨Nat.le_of_ble_eq_true rfl, Nat.le_of_ble_eq_true rfl⟩ hl.1 rfl (rest := []) (Nat.le_of_ble_eq_true rfl) ⟨Nat.zero_le _, Nat.zero_le _⟩ dX12_term_16 (fun H locs hP hS => ?_)
      refine W.eq (g2 := F0 m 19 ls [.int r_22]) rfl ?_
      refine lv_bipush (v := 42) hx hb dX12_term_19 (by decide) ?_
      refine lv_icmp_eq (tgt := 42) hx hb dX12_term_21 (by decide) (fun c_23 => ?_) (fun c_23 => ?_)
      · have hf := itT hf c_23
        exact hJ42 mmL_30 H locs ls hf hP hS (lv_sub hl [0] rfl)
      · have hf := itF hf c_23
        refine lv_aload_n hx hb dX12_term_24 rfl (lv_at hl 0 rfl) ?_
        obtain ⟨r_25, hc_24, hf⟩ := bi1S hf
        refine wd_cv X hP hS L1088 ml_X12_218 ⟨_, _, rfl⟩ (c_X12_sign l D dA zz bs mmL_30 r_25 hc_24) rfl ⟨Nat.le_of_ble_eq_true rfl, Nat.le_of_ble_eq_true rfl⟩ hl.1 rfl (rest := []) (Nat.le_of_ble_eq_true rfl) ⟨Nat.zero_le _, Nat.zero_le _⟩ dX12_term_25 (fun H locs hP hS => ?_)
        refine W.eq (g2 := F0 m 28 ls [.int r_25]) rfl ?_
        refine lv_bipush (v := 47) hx hb dX12_term_28 (by decide) ?_
        refine lv_icmp_eq (tgt := 42) hx hb dX12_term_30 (by decide) (fun c_26 => ?_) (fun c_26 => ?_)
        · have hf := itT hf c_26
          exact hJ42 mmL_30 H locs ls hf hP hS (lv_sub hl [0] rfl)
        · have hf := itF hf c_26
          refine lv_aload_n hx hb dX12_term_33 rfl (lv_at hl 0 rfl) ?_
          obtain ⟨r_28, hc_27, hf⟩ := bi1S hf
          refine wd_cv X hP hS L1088 ml_X12_218 ⟨_, _, rfl⟩ (c_X12_sign l D dA zz bs mmL_30 r_28 hc_27) rfl ⟨Nat.le_of_ble_eq_true rfl, Nat.le_of_ble_eq_true rfl⟩ hl.1 rfl (rest := []) (Nat.le_of_ble_eq_true rfl) ⟨Nat.zero_le _, Nat.zero_le _⟩ dX12_term_34 (fun H locs hP hS => ?_)
          refine W.eq (g2 := F0 m 37 ls [.int r_28]) rfl ?_
          refine lv_bipush (v := 37) hx hb dX12_term_37 (by decide) ?_
          refine lv_icmp_ne (tgt := 100) hx hb dX12_term_39 (by decide) (fun c_29 => ?_) (fun c_29 => ?_)
          · have hf := itF hf c_29
            obtain rfl := Option.some.inj hf
            exact hE _ rfl H locs ls hP hS (lv_sub hl [] rfl)
          · have hf := itT hf c_29
            exact hJ42 mmL_30 H locs ls hf hP hS (lv_sub hl [0] rfl)
  · obtain ⟨mm_31, e_mm_31⟩ : ∃ z, z = q_32 := ⟨_, rfl⟩
    subst e_mm_31
    intro H locs ls hP hS hl
    obtain rfl := Option.some.inj hf
    exact wd_vret X hP hS hr0 dX12_term_100 ⟨rfl, rfl⟩

noncomputable def f_X12_sum_j43 (mm : Mm) (z0 : Int32) : Option ((Mm) ⊕ (Mm)) :=
  vlet (wI mm 1088 32 ((mm.1 1088 32) + (1 : Int32))) fun mm_3 =>
    bi1 (f_X12_term mm_3) fun mm_4 =>
      bi1 (f_X12_entry mm_4 z0 (0 : Int32)) fun mm_6 => some (.inl mm_6)
noncomputable def f_X12_sum_j29 (mm : Mm) : Option ((Mm) ⊕ (Mm)) :=
  bi1 (f_X12_sign mm) fun r_10 =>
    if r_10 = (43 : Int32) then
      f_X12_sum_j43 mm (2 : Int32)
    else
      f_X12_sum_j43 mm (3 : Int32)
noncomputable def f_X12_sum_s4  : (Mm) → Option ((Mm) ⊕ (Mm)) :=
  fun (mm : Mm) =>
    if (mm.1 1088 33) = 0 then
      bi1 (f_X12_sign mm) fun r_15 =>
        if r_15 = (43 : Int32) then
          f_X12_sum_j29 mm
        else
          bi1 (f_X12_sign mm) fun r_18 =>
            if r_18 = (45 : Int32) then
              f_X12_sum_j29 mm
            else
              some (.inr mm)
    else
      some (.inr mm)
noncomputable def f_X12_sum (mm : Mm) : Option (Mm) :=
  bi1 (f_X12_term mm) fun mm_1 =>
    bi1 (lp (f_X12_sum_s4) mm_1) fun mm_21 =>
      some mm_21
set_option maxHeartbeats 4000000 in
set_option maxRecDepth 100000 in
theorem c_X12_sum (l : Launch) (D : va_G) (dA : Nat → ClassId) (zz : (Nat → Nat) × (Nat → Nat)) (bs : Nat) (mm : Mm) (m1 : Mm) (hf : f_X12_sum mm = some m1) : Mw l D dA zz bs LY yX12_sum cX12_sum 2 none 7 152 [.ref (bs + 1088)] mm none m1 := by
  refine Mw.of (own := RX12) (by decide) rfl (Nat.le_of_ble_eq_true rfl) ?_
  intro p e s m args below meth c X hr0 hP hS ls hl
  have hx := X.1
  have hb := X.2.1
  obtain ⟨H, hH⟩ : ∃ z : Heap, z = s.heap := ⟨_, rfl⟩
  obtain ⟨locs, hL⟩ : ∃ z : List Loc, z = [] := ⟨_, rfl⟩
  rw [← hH, ← hL]
  have hS : va_S (Aq bs) s.heap H locs := by rw [hH, hL]; exact hS
  have hP : Wd D dA bs LY mm H := by rw [hH]; exact hP
  have hl : lv_has ls 2 [(0, .ref (bs + 1088))] := hl
  unfold f_X12_sum at hf
  refine lv_aload_n hx hb dX12_sum_0 rfl (lv_at hl 0 rfl) ?_
  obtain ⟨mm_1, hc_2, hf⟩ := bi1S hf
  refine wd_cv X hP hS L1088 ml_X12_277 ⟨_, _, rfl⟩ (c_X12_term l D dA zz bs mm mm_1 hc_2) rfl ⟨Nat.le_of_ble_eq_true rfl, Nat.le_of_ble_eq_true rfl⟩ hl.1 rfl (rest := []) (Nat.le_of_ble_eq_true rfl) ⟨Nat.zero_le _, Nat.zero_le _⟩ dX12_sum_1 (fun H locs hP hS => ?_)
  refine W.eq (g2 := F0 m 4 ls []) rfl ?_
  obtain ⟨q_22, hlp_23, hf⟩ := bi1S hf
  refine lp_walk (Wh := (fun mmL_20 => ∀ (H : Heap) (locs : List Loc) (ls : Array Slot), Wd D dA bs LY mmL_20 H → va_S (Aq bs) s.heap H locs → lv_has ls 2 [(0, .ref (bs + 1088))] → Wz p l e s m args below meth c D dA bs none m1 7 152 H locs 4 ls [])) (Ph := (fun mm_21 => ∀ (H : Heap) (locs : List Loc) (ls : Array Slot), Wd D dA bs LY mm_21 H → va_S (Aq bs) s.heap H locs → lv_has ls 2 [] → Wz p l e s m args below meth c D dA bs none m1 7 152 H locs 67 ls [])) ?_ hlp_23 ?_ H locs ls hP hS (lv_sub hl [0] rfl)
  · intro mmL_20 o hf hB hE
    intro H locs ls hP hS hl
    have hf : f_X12_sum_s4 mmL_20 = some o := hf
    unfold f_X12_sum_s4 at hf
    have hJ43 : ∀ (mmJ_8 : Mm) (z0J_8 : Int32) (H : Heap) (locs : List Loc) (ls : Array Slot), f_X12_sum_j43 mmJ_8 z0J_8 = some o → Wd D dA bs LY mmJ_8 H → va_S (Aq bs) s.heap H locs → lv_has ls 2 [(0, .ref (bs + 1088))] → Wz p l e s m args below meth c D dA bs none m1 7 152 H locs 43 ls [.int z0J_8] := by
      intro mmJ_8 z0J_8 H locs ls hf hP hS hl
      unfold f_X12_sum_j43 at hf
      refine lv_istore_n (lv' := [(1, .int z0J_8), (0, .ref (bs + 1088))]) hx hb dX12_sum_43 rfl hl (by decide) rfl (fun ls hl => ?_)
      refine lv_aload_n hx hb dX12_sum_44 rfl (lv_at hl 1 rfl) ?_
      refine lv_dup hx hb dX12_sum_45 rfl ?_
      refine wd_getI X hP L1088 fl_X12_215 rfl dX12_sum_46 ?_
      refine lv_iconst (v := 1) hx hb dX12_sum_49 (by decide) ?_
      refine lv_iadd hx hb dX12_sum_50 ?_
      refine wd_putI X hP hS L1088 fp_X12_215 rfl dX12_sum_51 (fun H locs mm_3 emm_3 hP hS => ?_)
      have hf := vl hf emm_3
      refine lv_aload_n hx hb dX12_sum_54 rfl (lv_at hl 1 rfl) ?_
      obtain ⟨mm_4, hc_5, hf⟩ := bi1S hf
      refine wd_cv X hP hS L1088 ml_X12_277 ⟨_, _, rfl⟩ (c_X12_term l D dA zz bs mm_3 mm_4 hc_5) rfl ⟨Nat.le_of_ble_eq_true rfl, Nat.le_of_ble_eq_true rfl⟩ hl.1 rfl (rest := []) (Nat.le_of_ble_eq_true rfl) ⟨Nat.zero_le _, Nat.zero_le _⟩ dX12_sum_55 (fun H locs hP hS => ?_)
      refine W.eq (g2 := F0 m 58 ls []) rfl ?_
      refine lv_aload_n hx hb dX12_sum_58 rfl (lv_at hl 1 rfl) ?_
      refine lv_iload_n hx hb dX12_sum_59 rfl (lv_at hl 0 rfl) ?_
      refine lv_iconst (v := 0) hx hb dX12_sum_60 (by decide) ?_
      obtain ⟨mm_6, hc_7, hf⟩ := bi1S hf
      refine wd_cv X hP hS L1088 ml_X12_267 ⟨_, _, rfl⟩ (c_X12_entry l D dA zz bs mm_4 z0J_8 (0 : Int32) mm_6 hc_7) rfl ⟨Nat.le_of_ble_eq_true rfl, Nat.le_of_ble_eq_true rfl⟩ hl.1 rfl (rest := []) (Nat.le_of_ble_eq_true rfl) ⟨Nat.zero_le _, Nat.zero_le _⟩ dX12_sum_61 (fun H locs hP hS => ?_)
      refine W.eq (g2 := F0 m 64 ls []) rfl ?_
      refine lv_goto (tgt := 4) hx hb dX12_sum_64 (by decide) ?_
      obtain rfl := Option.some.inj hf
      exact hB _ rfl H locs ls hP hS (lv_sub hl [1] rfl)
    have hJ29 : ∀ (mmJ_12 : Mm) (H : Heap) (locs : List Loc) (ls : Array Slot), f_X12_sum_j29 mmJ_12 = some o → Wd D dA bs LY mmJ_12 H → va_S (Aq bs) s.heap H locs → lv_has ls 2 [(0, .ref (bs + 1088))] → Wz p l e s m args below meth c D dA bs none m1 7 152 H locs 29 ls [] := by
      intro mmJ_12 H locs ls hf hP hS hl
      unfold f_X12_sum_j29 at hf
      refine lv_aload_n hx hb dX12_sum_29 rfl (lv_at hl 0 rfl) ?_
      obtain ⟨r_10, hc_9, hf⟩ := bi1S hf
      refine wd_cv X hP hS L1088 ml_X12_218 ⟨_, _, rfl⟩ (c_X12_sign l D dA zz bs mmJ_12 r_10 hc_9) rfl ⟨Nat.le_of_ble_eq_true rfl, Nat.le_of_ble_eq_true rfl⟩ hl.1 rfl (rest := []) (Nat.le_of_ble_eq_true rfl) ⟨Nat.zero_le _, Nat.zero_le _⟩ dX12_sum_30 (fun H locs hP hS => ?_)
      refine W.eq (g2 := F0 m 33 ls [.int r_10]) rfl ?_
      refine lv_bipush (v := 43) hx hb dX12_sum_33 (by decide) ?_
      refine lv_icmp_ne (tgt := 42) hx hb dX12_sum_35 (by decide) (fun c_11 => ?_) (fun c_11 => ?_)
      · have hf := itF hf c_11
        refine lv_iconst (v := 3) hx hb dX12_sum_42 (by decide) ?_
        exact hJ43 mmJ_12 (3 : Int32) H locs ls hf hP hS (lv_sub hl [0] rfl)
      · have hf := itT hf c_11
        refine lv_iconst (v := 2) hx hb dX12_sum_38 (by decide) ?_
        refine lv_goto (tgt := 43) hx hb dX12_sum_39 (by decide) ?_
        exact hJ43 mmJ_12 (2 : Int32) H locs ls hf hP hS (lv_sub hl [0] rfl)
    refine lv_aload_n hx hb dX12_sum_4 rfl (lv_at hl 0 rfl) ?_
    refine wd_getI X hP L1088 fl_X12_212 rfl dX12_sum_5 ?_
    refine lv_if_ne (tgt := 67) hx hb dX12_sum_8 (by decide) (fun c_13 => ?_) (fun c_13 => ?_)
    · have hf := itF hf c_13
      obtain rfl := Option.some.inj hf
      exact hE _ rfl H locs ls hP hS (lv_sub hl [] rfl)
    · have hf := itT hf c_13
      refine lv_aload_n hx hb dX12_sum_11 rfl (lv_at hl 0 rfl) ?_
      obtain ⟨r_15, hc_14, hf⟩ := bi1S hf
      refine wd_cv X hP hS L1088 ml_X12_218 ⟨_, _, rfl⟩ (c_X12_sign l D dA zz bs mmL_20 r_15 hc_14) rfl ⟨Nat.le_of_ble_eq_true rfl, Nat.le_of_ble_eq_true rfl⟩ hl.1 rfl (rest := []) (Nat.le_of_ble_eq_true rfl) ⟨Nat.zero_le _, Nat.zero_le _⟩ dX12_sum_12 (fun H locs hP hS => ?_)
      refine W.eq (g2 := F0 m 15 ls [.int r_15]) rfl ?_
      refine lv_bipush (v := 43) hx hb dX12_sum_15 (by decide) ?_
      refine lv_icmp_eq (tgt := 29) hx hb dX12_sum_17 (by decide) (fun c_16 => ?_) (fun c_16 => ?_)
      · have hf := itT hf c_16
        exact hJ29 mmL_20 H locs ls hf hP hS (lv_sub hl [0] rfl)
      · have hf := itF hf c_16
        refine lv_aload_n hx hb dX12_sum_20 rfl (lv_at hl 0 rfl) ?_
        obtain ⟨r_18, hc_17, hf⟩ := bi1S hf
        refine wd_cv X hP hS L1088 ml_X12_218 ⟨_, _, rfl⟩ (c_X12_sign l D dA zz bs mmL_20 r_18 hc_17) rfl ⟨Nat.le_of_ble_eq_true rfl, Nat.le_of_ble_eq_true rfl⟩ hl.1 rfl (rest := []) (Nat.le_of_ble_eq_true rfl) ⟨Nat.zero_le _, Nat.zero_le _⟩ dX12_sum_21 (fun H locs hP hS => ?_)
        refine W.eq (g2 := F0 m 24 ls [.int r_18]) rfl ?_
        refine lv_bipush (v := 45) hx hb dX12_sum_24 (by decide) ?_
        refine lv_icmp_ne (tgt := 67) hx hb dX12_sum_26 (by decide) (fun c_19 => ?_) (fun c_19 => ?_)
        · have hf := itF hf c_19
          obtain rfl := Option.some.inj hf
          exact hE _ rfl H locs ls hP hS (lv_sub hl [] rfl)
        · have hf := itT hf c_19
          exact hJ29 mmL_20 H locs ls hf hP hS (lv_sub hl [0] rfl)
  · obtain ⟨mm_21, e_mm_21⟩ : ∃ z, z = q_22 := ⟨_, rfl⟩
    subst e_mm_21
    intro H locs ls hP hS hl
    obtain rfl := Option.some.inj hf
    exact wd_vret X hP hS hr0 dX12_sum_67 ⟨rfl, rfl⟩

noncomputable def f_X12_compared_j139 (mm : Mm) (z0 : Int32) : Option (Mm) :=
  bi1 (f_X12_entry mm z0 (0 : Int32)) fun mm_1 => some mm_1
noncomputable def f_X12_compared_j90 (mm : Mm) (y1 : Int32) (y2 : Int32) (z0 : Int32) (z1 : Int32) : Option (Mm) :=
  vlet (wI mm 1088 32 (z1 + z0)) fun mm_4 =>
    bi1 (f_X12_sum mm_4) fun mm_5 =>
      if y1 = (61 : Int32) then
        f_X12_compared_j139 mm_5 (6 : Int32)
      else
        if y1 = (60 : Int32) then
          if y2 = 0 then
            f_X12_compared_j139 mm_5 (4 : Int32)
          else
            f_X12_compared_j139 mm_5 (5 : Int32)
        else
          if y2 = 0 then
            f_X12_compared_j139 mm_5 (8 : Int32)
          else
            f_X12_compared_j139 mm_5 (7 : Int32)
noncomputable def f_X12_compared_j75 (mm : Mm) (y1 : Int32) (z0 : Int32) : Option (Mm) :=
  if z0 = 0 then
    f_X12_compared_j90 mm y1 z0 (0 : Int32) (mm.1 1088 32)
  else
    f_X12_compared_j90 mm y1 z0 (1 : Int32) (mm.1 1088 32)
noncomputable def f_X12_compared_j74 (mm : Mm) (y1 : Int32) : Option (Mm) :=
  f_X12_compared_j75 mm y1 (0 : Int32)
noncomputable def f_X12_compared_j37 (mm : Mm) (y1 : Int32) : Option (Mm) :=
  bi1 (f_X12_isCounted mm (mm.1 1088 32)) fun mm_15 =>
    vlet (wI mm_15 1088 32 ((mm_15.1 1088 32) + (1 : Int32))) fun mm_17 =>
      if y1 = (61 : Int32) then
        f_X12_compared_j74 mm_17 y1
      else
        bi1 (f_X12_sign mm_17) fun r_20 =>
          if r_20 = (61 : Int32) then
            f_X12_compared_j75 mm_17 y1 (1 : Int32)
          else
            f_X12_compared_j74 mm_17 y1
noncomputable def f_X12_compared (mm : Mm) : Option (Mm) :=
  bi1 (f_X12_sum mm) fun mm_23 =>
    bi1 (f_X12_sign mm_23) fun r_26 =>
      if r_26 = (60 : Int32) then
        f_X12_compared_j37 mm_23 r_26
      else
        if r_26 = (61 : Int32) then
          f_X12_compared_j37 mm_23 r_26
        else
          if r_26 = (62 : Int32) then
            f_X12_compared_j37 mm_23 r_26
          else
            bi1 (f_X12_fails mm_23 (0 : Int32) (mm_23.1 1088 32)) fun mm_30 => some mm_30
set_option maxHeartbeats 4000000 in
set_option maxRecDepth 100000 in
theorem c_X12_compared (l : Launch) (D : va_G) (dA : Nat → ClassId) (zz : (Nat → Nat) × (Nat → Nat)) (bs : Nat) (mm : Mm) (m1 : Mm) (hf : f_X12_compared mm = some m1) : Mw l D dA zz bs LY yX12_compared cX12_compared 3 none 8 173 [.ref (bs + 1088)] mm none m1 := by
  refine Mw.of (own := RX12) (by decide) rfl (Nat.le_of_ble_eq_true rfl) ?_
  intro p e s m args below meth c X hr0 hP hS ls hl
  have hx := X.1
  have hb := X.2.1
  obtain ⟨H, hH⟩ : ∃ z : Heap, z = s.heap := ⟨_, rfl⟩
  obtain ⟨locs, hL⟩ : ∃ z : List Loc, z = [] := ⟨_, rfl⟩
  rw [← hH, ← hL]
  have hS : va_S (Aq bs) s.heap H locs := by rw [hH, hL]; exact hS
  have hP : Wd D dA bs LY mm H := by rw [hH]; exact hP
  have hl : lv_has ls 3 [(0, .ref (bs + 1088))] := hl
  have hJ139 : ∀ (mmJ_3 : Mm) (z0J_3 : Int32) (H : Heap) (locs : List Loc) (ls : Array Slot), f_X12_compared_j139 mmJ_3 z0J_3 = some m1 → Wd D dA bs LY mmJ_3 H → va_S (Aq bs) s.heap H locs → lv_has ls 3 [] → Wz p l e s m args below meth c D dA bs none m1 8 173 H locs 139 ls [.int z0J_3, .ref (bs + 1088)] := by
    intro mmJ_3 z0J_3 H locs ls hf hP hS hl
    unfold f_X12_compared_j139 at hf
    refine lv_iconst (v := 0) hx hb dX12_compared_139 (by decide) ?_
    obtain ⟨mm_1, hc_2, hf⟩ := bi1S hf
    refine wd_cv X hP hS L1088 ml_X12_267 ⟨_, _, rfl⟩ (c_X12_entry l D dA zz bs mmJ_3 z0J_3 (0 : Int32) mm_1 hc_2) rfl ⟨Nat.le_of_ble_eq_true rfl, Nat.le_of_ble_eq_true rfl⟩ hl.1 rfl (rest := []) (Nat.le_of_ble_eq_true rfl) ⟨Nat.zero_le _, Nat.zero_le _⟩ dX12_compared_140 (fun H locs hP hS => ?_)
    refine W.eq (g2 := F0 m 143 ls []) rfl ?_
    obtain rfl := Option.some.inj hf
    exact wd_vret X hP hS hr0 dX12_compared_143 ⟨rfl, rfl⟩
  have hJ90 : ∀ (mmJ_11 : Mm) (y1J_11 : Int32) (y2J_11 : Int32) (z0J_11 : Int32) (z1J_11 : Int32) (H : Heap) (locs : List Loc) (ls : Array Slot), f_X12_compared_j90 mmJ_11 y1J_11 y2J_11 z0J_11 z1J_11 = some m1 → Wd D dA bs LY mmJ_11 H → va_S (Aq bs) s.heap H locs → lv_has ls 3 [(0, .ref (bs + 1088)), (1, .int y1J_11), (2, .int y2J_11)] → Wz p l e s m args below meth c D dA bs none m1 8 173 H locs 90 ls [.int z0J_11, .int z1J_11, .ref (bs + 1088)] := by
    intro mmJ_11 y1J_11 y2J_11 z0J_11 z1J_11 H locs ls hf hP hS hl
    unfold f_X12_compared_j90 at hf
    refine lv_iadd hx hb dX12_compared_90 ?_
    refine wd_putI X hP hS L1088 fp_X12_215 rfl dX12_compared_91 (fun H locs mm_4 emm_4 hP hS => ?_)
    have hf := vl hf emm_4
    refine lv_aload_n hx hb dX12_compared_94 rfl (lv_at hl 0 rfl) ?_
    obtain ⟨mm_5, hc_6, hf⟩ := bi1S hf
    refine wd_cv X hP hS L1088 ml_X12_280 ⟨_, _, rfl⟩ (c_X12_sum l D dA zz bs mm_4 mm_5 hc_6) rfl ⟨Nat.le_of_ble_eq_true rfl, Nat.le_of_ble_eq_true rfl⟩ hl.1 rfl (rest := []) (Nat.le_of_ble_eq_true rfl) ⟨Nat.zero_le _, Nat.zero_le _⟩ dX12_compared_95 (fun H locs hP hS => ?_)
    refine W.eq (g2 := F0 m 98 ls []) rfl ?_
    refine lv_aload_n hx hb dX12_compared_98 rfl (lv_at hl 0 rfl) ?_
    refine lv_iload_n hx hb dX12_compared_99 rfl (lv_at hl 1 rfl) ?_
    refine lv_bipush (v := 61) hx hb dX12_compared_100 (by decide) ?_
    refine lv_icmp_ne (tgt := 110) hx hb dX12_compared_102 (by decide) (fun c_7 => ?_) (fun c_7 => ?_)
    · have hf := itF hf c_7
      refine lv_iload_n hx hb dX12_compared_110 rfl (lv_at hl 1 rfl) ?_
      refine lv_bipush (v := 60) hx hb dX12_compared_111 (by decide) ?_
      refine lv_icmp_ne (tgt := 128) hx hb dX12_compared_113 (by decide) (fun c_8 => ?_) (fun c_8 => ?_)
      · have hf := itF hf c_8
        refine lv_iload_n hx hb dX12_compared_128 rfl (lv_at hl 2 rfl) ?_
        refine lv_if_eq (tgt := 137) hx hb dX12_compared_129 (by decide) (fun c_9 => ?_) (fun c_9 => ?_)
        · have hf := itT hf c_9
          refine lv_bipush (v := 8) hx hb dX12_compared_137 (by decide) ?_
          exact hJ139 mm_5 (8 : Int32) H locs ls hf hP hS (lv_sub hl [] rfl)
        · have hf := itF hf c_9
          refine lv_bipush (v := 7) hx hb dX12_compared_132 (by decide) ?_
          refine lv_goto (tgt := 139) hx hb dX12_compared_134 (by decide) ?_
          exact hJ139 mm_5 (7 : Int32) H locs ls hf hP hS (lv_sub hl [] rfl)
      · have hf := itT hf c_8
        refine lv_iload_n hx hb dX12_compared_116 rfl (lv_at hl 2 rfl) ?_
        refine lv_if_eq (tgt := 124) hx hb dX12_compared_117 (by decide) (fun c_10 => ?_) (fun c_10 => ?_)
        · have hf := itT hf c_10
          refine lv_iconst (v := 4) hx hb dX12_compared_124 (by decide) ?_
          refine lv_goto (tgt := 139) hx hb dX12_compared_125 (by decide) ?_
          exact hJ139 mm_5 (4 : Int32) H locs ls hf hP hS (lv_sub hl [] rfl)
        · have hf := itF hf c_10
          refine lv_iconst (v := 5) hx hb dX12_compared_120 (by decide) ?_
          refine lv_goto (tgt := 139) hx hb dX12_compared_121 (by decide) ?_
          exact hJ139 mm_5 (5 : Int32) H locs ls hf hP hS (lv_sub hl [] rfl)
    · have hf := itT hf c_7
      refine lv_bipush (v := 6) hx hb dX12_compared_105 (by decide) ?_
      refine lv_goto (tgt := 139) hx hb dX12_compared_107 (by decide) ?_
      exact hJ139 mm_5 (6 : Int32) H locs ls hf hP hS (lv_sub hl [] rfl)
  have hJ75 : ∀ (mmJ_13 : Mm) (y1J_13 : Int32) (z0J_13 : Int32) (H : Heap) (locs : List Loc) (ls : Array Slot), f_X12_compared_j75 mmJ_13 y1J_13 z0J_13 = some m1 → Wd D dA bs LY mmJ_13 H → va_S (Aq bs) s.heap H locs → lv_has ls 3 [(0, .ref (bs + 1088)), (1, .int y1J_13)] → Wz p l e s m args below meth c D dA bs none m1 8 173 H locs 75 ls [.int z0J_13] := by
    intro mmJ_13 y1J_13 z0J_13 H locs ls hf hP hS hl
    unfold f_X12_compared_j75 at hf
    refine lv_istore_n (lv' := [(2, .int z0J_13), (0, .ref (bs + 1088)), (1, .int y1J_13)]) hx hb dX12_compared_75 rfl hl (by decide) rfl (fun ls hl => ?_)
    refine lv_aload_n hx hb dX12_compared_76 rfl (lv_at hl 1 rfl) ?_
    refine lv_dup hx hb dX12_compared_77 rfl ?_
    refine wd_getI X hP L1088 fl_X12_215 rfl dX12_compared_78 ?_
    refine lv_iload_n hx hb dX12_compared_81 rfl (lv_at hl 0 rfl) ?_
    refine lv_if_eq (tgt := 89) hx hb dX12_compared_82 (by decide) (fun c_12 => ?_) (fun c_12 => ?_)
    · have hf := itT hf c_12
      refine lv_iconst (v := 0) hx hb dX12_compared_89 (by decide) ?_
      exact hJ90 mmJ_13 y1J_13 z0J_13 (0 : Int32) (mmJ_13.1 1088 32) H locs ls hf hP hS (lv_sub hl [1, 2, 0] rfl)
    · have hf := itF hf c_12
      refine lv_iconst (v := 1) hx hb dX12_compared_85 (by decide) ?_
      refine lv_goto (tgt := 90) hx hb dX12_compared_86 (by decide) ?_
      exact hJ90 mmJ_13 y1J_13 z0J_13 (1 : Int32) (mmJ_13.1 1088 32) H locs ls hf hP hS (lv_sub hl [1, 2, 0] rfl)
  have hJ74 : ∀ (mmJ_14 : Mm) (y1J_14 : Int32) (H : Heap) (locs : List Loc) (ls : Array Slot), f_X12_compared_j74 mmJ_14 y1J_14 = some m1 → Wd D dA bs LY mmJ_14 H → va_S (Aq bs) s.heap H locs → lv_has ls 3 [(0, .ref (bs + 1088)), (1, .int y1J_14)] → Wz p l e s m args below meth c D dA bs none m1 8 173 H locs 74 ls [] := by
    intro mmJ_14 y1J_14 H locs ls hf hP hS hl
    unfold f_X12_compared_j74 at hf
    refine lv_iconst (v := 0) hx hb dX12_compared_74 (by decide) ?_
    exact hJ75 mmJ_14 y1J_14 (0 : Int32) H locs ls hf hP hS (lv_sub hl [0, 1] rfl)
  have hJ37 : ∀ (mmJ_22 : Mm) (y1J_22 : Int32) (H : Heap) (locs : List Loc) (ls : Array Slot), f_X12_compared_j37 mmJ_22 y1J_22 = some m1 → Wd D dA bs LY mmJ_22 H → va_S (Aq bs) s.heap H locs → lv_has ls 3 [(0, .ref (bs + 1088)), (1, .int y1J_22)] → Wz p l e s m args below meth c D dA bs none m1 8 173 H locs 37 ls [] := by
    intro mmJ_22 y1J_22 H locs ls hf hP hS hl
    unfold f_X12_compared_j37 at hf
    refine lv_aload_n hx hb dX12_compared_37 rfl (lv_at hl 0 rfl) ?_
    refine lv_aload_n hx hb dX12_compared_38 rfl (lv_at hl 0 rfl) ?_
    refine wd_getI X hP L1088 fl_X12_215 rfl dX12_compared_39 ?_
    obtain ⟨mm_15, hc_16, hf⟩ := bi1S hf
    refine wd_cv X hP hS L1088 ml_X12_264 ⟨_, _, rfl⟩ (c_X12_isCounted l D dA zz bs mmJ_22 (mmJ_22.1 1088 32) mm_15 hc_16) rfl ⟨Nat.le_of_ble_eq_true rfl, Nat.le_of_ble_eq_true rfl⟩ hl.1 rfl (rest := []) (Nat.le_of_ble_eq_true rfl) ⟨Nat.zero_le _, Nat.zero_le _⟩ dX12_compared_42 (fun H locs hP hS => ?_)
    refine W.eq (g2 := F0 m 45 ls []) rfl ?_
    refine lv_aload_n hx hb dX12_compared_45 rfl (lv_at hl 0 rfl) ?_
    refine lv_dup hx hb dX12_compared_46 rfl ?_
    refine wd_getI X hP L1088 fl_X12_215 rfl dX12_compared_47 ?_
    refine lv_iconst (v := 1) hx hb dX12_compared_50 (by decide) ?_
    refine lv_iadd hx hb dX12_compared_51 ?_
    refine wd_putI X hP hS L1088 fp_X12_215 rfl dX12_compared_52 (fun H locs mm_17 emm_17 hP hS => ?_)
    have hf := vl hf emm_17
    refine lv_iload_n hx hb dX12_compared_55 rfl (lv_at hl 1 rfl) ?_
    refine lv_bipush (v := 61) hx hb dX12_compared_56 (by decide) ?_
    refine lv_icmp_eq (tgt := 74) hx hb dX12_compared_58 (by decide) (fun c_18 => ?_) (fun c_18 => ?_)
    · have hf := itT hf c_18
      exact hJ74 mm_17 y1J_22 H locs ls hf hP hS (lv_sub hl [0, 1] rfl)
    · have hf := itF hf c_18
      refine lv_aload_n hx hb dX12_compared_61 rfl (lv_at hl 0 rfl) ?_
      obtain ⟨r_20, hc_19, hf⟩ := bi1S hf
      refine wd_cv X hP hS L1088 ml_X12_218 ⟨_, _, rfl⟩ (c_X12_sign l D dA zz bs mm_17 r_20 hc_19) rfl ⟨Nat.le_of_ble_eq_true rfl, Nat.le_of_ble_eq_true rfl⟩ hl.1 rfl (rest := []) (Nat.le_of_ble_eq_true rfl) ⟨Nat.zero_le _, Nat.zero_le _⟩ dX12_compared_62 (fun H locs hP hS => ?_)
      refine W.eq (g2 := F0 m 65 ls [.int r_20]) rfl ?_
      refine lv_bipush (v := 61) hx hb dX12_compared_65 (by decide) ?_
      refine lv_icmp_ne (tgt := 74) hx hb dX12_compared_67 (by decide) (fun c_21 => ?_) (fun c_21 => ?_)
      · have hf := itF hf c_21
        exact hJ74 mm_17 y1J_22 H locs ls hf hP hS (lv_sub hl [0, 1] rfl)
      · have hf := itT hf c_21
        refine lv_iconst (v := 1) hx hb dX12_compared_70 (by decide) ?_
        refine lv_goto (tgt := 75) hx hb dX12_compared_71 (by decide) ?_
        exact hJ75 mm_17 y1J_22 (1 : Int32) H locs ls hf hP hS (lv_sub hl [0, 1] rfl)
  unfold f_X12_compared at hf
  refine lv_aload_n hx hb dX12_compared_0 rfl (lv_at hl 0 rfl) ?_
  obtain ⟨mm_23, hc_24, hf⟩ := bi1S hf
  refine wd_cv X hP hS L1088 ml_X12_280 ⟨_, _, rfl⟩ (c_X12_sum l D dA zz bs mm mm_23 hc_24) rfl ⟨Nat.le_of_ble_eq_true rfl, Nat.le_of_ble_eq_true rfl⟩ hl.1 rfl (rest := []) (Nat.le_of_ble_eq_true rfl) ⟨Nat.zero_le _, Nat.zero_le _⟩ dX12_compared_1 (fun H locs hP hS => ?_)
  refine W.eq (g2 := F0 m 4 ls []) rfl ?_
  refine lv_aload_n hx hb dX12_compared_4 rfl (lv_at hl 0 rfl) ?_
  obtain ⟨r_26, hc_25, hf⟩ := bi1S hf
  refine wd_cv X hP hS L1088 ml_X12_218 ⟨_, _, rfl⟩ (c_X12_sign l D dA zz bs mm_23 r_26 hc_25) rfl ⟨Nat.le_of_ble_eq_true rfl, Nat.le_of_ble_eq_true rfl⟩ hl.1 rfl (rest := []) (Nat.le_of_ble_eq_true rfl) ⟨Nat.zero_le _, Nat.zero_le _⟩ dX12_compared_5 (fun H locs hP hS => ?_)
  refine W.eq (g2 := F0 m 8 ls [.int r_26]) rfl ?_
  refine lv_istore_n (lv' := [(1, .int r_26), (0, .ref (bs + 1088))]) hx hb dX12_compared_8 rfl hl (by decide) rfl (fun ls hl => ?_)
  refine lv_iload_n hx hb dX12_compared_9 rfl (lv_at hl 0 rfl) ?_
  refine lv_bipush (v := 60) hx hb dX12_compared_10 (by decide) ?_
  refine lv_icmp_eq (tgt := 37) hx hb dX12_compared_12 (by decide) (fun c_27 => ?_) (fun c_27 => ?_)
  · have hf := itT hf c_27
    exact hJ37 mm_23 r_26 H locs ls hf hP hS (lv_sub hl [1, 0] rfl)
  · have hf := itF hf c_27
    refine lv_iload_n hx hb dX12_compared_15 rfl (lv_at hl 0 rfl) ?_
    refine lv_bipush (v := 61) hx hb dX12_compared_16 (by decide) ?_
    refine lv_icmp_eq (tgt := 37) hx hb dX12_compared_18 (by decide) (fun c_28 => ?_) (fun c_28 => ?_)
    · have hf := itT hf c_28
      exact hJ37 mm_23 r_26 H locs ls hf hP hS (lv_sub hl [1, 0] rfl)
    · have hf := itF hf c_28
      refine lv_iload_n hx hb dX12_compared_21 rfl (lv_at hl 0 rfl) ?_
      refine lv_bipush (v := 62) hx hb dX12_compared_22 (by decide) ?_
      refine lv_icmp_eq (tgt := 37) hx hb dX12_compared_24 (by decide) (fun c_29 => ?_) (fun c_29 => ?_)
      · have hf := itT hf c_29
        exact hJ37 mm_23 r_26 H locs ls hf hP hS (lv_sub hl [1, 0] rfl)
      · have hf := itF hf c_29
        refine lv_aload_n hx hb dX12_compared_27 rfl (lv_at hl 1 rfl) ?_
        refine lv_iconst (v := 0) hx hb dX12_compared_28 (by decide) ?_
        refine lv_aload_n hx hb dX12_compared_29 rfl (lv_at hl 1 rfl) ?_
        refine wd_getI X hP L1088 fl_X12_215 rfl dX12_compared_30 ?_
        obtain ⟨mm_30, hc_31, hf⟩ := bi1S hf
        refine wd_cv X hP hS L1088 ml_X12_251 ⟨_, _, rfl⟩ (c_X12_fails l D dA zz bs mm_23 (0 : Int32) (mm_23.1 1088 32) mm_30 hc_31) rfl ⟨Nat.le_of_ble_eq_true rfl, Nat.le_of_ble_eq_true rfl⟩ hl.1 rfl (rest := []) (Nat.le_of_ble_eq_true rfl) ⟨Nat.zero_le _, Nat.zero_le _⟩ dX12_compared_33 (fun H locs hP hS => ?_)
        refine W.eq (g2 := F0 m 36 ls []) rfl ?_
        obtain rfl := Option.some.inj hf
        exact wd_vret X hP hS hr0 dX12_compared_36 ⟨rfl, rfl⟩

noncomputable def f_X12_top (mm : Mm) : Option (Int32) :=
  if (mm.1 1088 39) = 0 then
    some (-1 : Int32)
  else
    if ((mm.1 1088 39) - (1 : Int32)) < 0 ∨ 402 ≤ ((mm.1 1088 39) - (1 : Int32)).toNatClampNeg then none else
      some (mm.1 1126 ((mm.1 1088 39) - (1 : Int32)).toNatClampNeg)
set_option maxHeartbeats 4000000 in
set_option maxRecDepth 100000 in
theorem c_X12_top (l : Launch) (D : va_G) (dA : Nat → ClassId) (zz : (Nat → Nat) × (Nat → Nat)) (bs : Nat) (mm : Mm) (out : Int32) (hf : f_X12_top mm = some out) : Mw l D dA zz bs LY yX12_top cX12_top 1 (some .int) 0 0 [.ref (bs + 1088)] mm (some (.int out)) mm := by
  refine Mw.of (own := RX12) (by decide) rfl (Nat.le_of_ble_eq_true rfl) ?_
  intro p e s m args below meth c X hr0 hP hS ls hl
  have hx := X.1
  have hb := X.2.1
  obtain ⟨H, hH⟩ : ∃ z : Heap, z = s.heap := ⟨_, rfl⟩
  obtain ⟨locs, hL⟩ : ∃ z : List Loc, z = [] := ⟨_, rfl⟩
  rw [← hH, ← hL]
  have hS : va_S (Aq bs) s.heap H locs := by rw [hH, hL]; exact hS
  have hP : Wd D dA bs LY mm H := by rw [hH]; exact hP
  have hl : lv_has ls 1 [(0, .ref (bs + 1088))] := hl
  unfold f_X12_top at hf
  refine lv_aload_n hx hb dX12_top_0 rfl (lv_at hl 0 rfl) ?_
  refine wd_getI X hP L1088 fl_X12_283 rfl dX12_top_1 ?_
  refine lv_if_ne (tgt := 11) hx hb dX12_top_4 (by decide) (fun c_1 => ?_) (fun c_1 => ?_)
  · have hf := itF hf c_1
    refine lv_aload_n hx hb dX12_top_11 rfl (lv_at hl 0 rfl) ?_
    refine wd_getR (q := 1126) X hP L1088 fl_X12_126 rfl dX12_top_12 ?_
    refine lv_aload_n hx hb dX12_top_15 rfl (lv_at hl 0 rfl) ?_
    refine wd_getI X hP L1088 fl_X12_283 rfl dX12_top_16 ?_
    refine lv_iconst (v := 1) hx hb dX12_top_19 (by decide) ?_
    refine lv_isub hx hb dX12_top_20 ?_
    have g_2 := gdN hf
    have hf := gdK hf
    refine wd_iald X hP L1126 g_2 dX12_top_21 ?_
    obtain rfl := Option.some.inj hf
    exact wd_iret X hP hS hr0 dX12_top_22 ⟨rfl, rfl⟩
  · have hf := itT hf c_1
    refine lv_iconst (v := -1) hx hb dX12_top_7 (by decide) ?_
    refine lv_goto (tgt := 22) hx hb dX12_top_8 (by decide) ?_
    obtain rfl := Option.some.inj hf
    exact wd_iret X hP hS hr0 dX12_top_22 ⟨rfl, rfl⟩

noncomputable def f_X12_opens_j40 (mm : Mm) (y1 : Int32) : Option (Mm) :=
  if (mm.1 1088 39) < 0 ∨ 402 ≤ (mm.1 1088 39).toNatClampNeg then none else
    vlet (wI mm 1126 (mm.1 1088 39).toNatClampNeg y1) fun mm_1 =>
      vlet (wI mm_1 1088 39 ((mm_1.1 1088 39) + (1 : Int32))) fun mm_3 => some mm_3
noncomputable def f_X12_opens_j30 (mm : Mm) (y1 : Int32) : Option (Mm) :=
  vlet (wI mm 1088 37 ((mm.1 1088 37) + (1 : Int32))) fun mm_5 => f_X12_opens_j40 mm_5 y1
noncomputable def f_X12_opens_j12 (mm : Mm) (y1 : Int32) : Option (Mm) :=
  if (mm.1 1088 37) = (10 : Int32) then
    bi1 (f_X12_fails mm (2 : Int32) (mm.1 1088 32)) fun mm_8 => f_X12_opens_j30 mm_8 y1
  else
    f_X12_opens_j30 mm y1
noncomputable def f_X12_opens (mm : Mm) (x1 : Int32) : Option (Mm) :=
  if x1 = (9 : Int32) then
    f_X12_opens_j12 mm x1
  else
    if x1 = (12 : Int32) then
      f_X12_opens_j12 mm x1
    else
      f_X12_opens_j40 mm x1
set_option maxHeartbeats 4000000 in
set_option maxRecDepth 100000 in
theorem c_X12_opens (l : Launch) (D : va_G) (dA : Nat → ClassId) (zz : (Nat → Nat) × (Nat → Nat)) (bs : Nat) (mm : Mm) (x1 : Int32) (m1 : Mm) (hf : f_X12_opens mm x1 = some m1) : Mw l D dA zz bs LY yX12_opens cX12_opens 2 none 1 22 [.ref (bs + 1088), .int x1] mm none m1 := by
  refine Mw.of (own := RX12) (by decide) rfl (Nat.le_of_ble_eq_true rfl) ?_
  intro p e s m args below meth c X hr0 hP hS ls hl
  have hx := X.1
  have hb := X.2.1
  obtain ⟨H, hH⟩ : ∃ z : Heap, z = s.heap := ⟨_, rfl⟩
  obtain ⟨locs, hL⟩ : ∃ z : List Loc, z = [] := ⟨_, rfl⟩
  rw [← hH, ← hL]
  have hS : va_S (Aq bs) s.heap H locs := by rw [hH, hL]; exact hS
  have hP : Wd D dA bs LY mm H := by rw [hH]; exact hP
  have hl : lv_has ls 2 [(0, .ref (bs + 1088)), (1, .int x1)] := hl
  have hJ40 : ∀ (mmJ_4 : Mm) (y1J_4 : Int32) (H : Heap) (locs : List Loc) (ls : Array Slot), f_X12_opens_j40 mmJ_4 y1J_4 = some m1 → Wd D dA bs LY mmJ_4 H → va_S (Aq bs) s.heap H locs → lv_has ls 2 [(0, .ref (bs + 1088)), (1, .int y1J_4)] → Wz p l e s m args below meth c D dA bs none m1 1 22 H locs 40 ls [] := by
    intro mmJ_4 y1J_4 H locs ls hf hP hS hl
    unfold f_X12_opens_j40 at hf
    refine lv_aload_n hx hb dX12_opens_40 rfl (lv_at hl 0 rfl) ?_
    refine wd_getR (q := 1126) X hP L1088 fl_X12_126 rfl dX12_opens_41 ?_
    refine lv_aload_n hx hb dX12_opens_44 rfl (lv_at hl 0 rfl) ?_
    refine wd_getI X hP L1088 fl_X12_283 rfl dX12_opens_45 ?_
    refine lv_iload_n hx hb dX12_opens_48 rfl (lv_at hl 1 rfl) ?_
    have g_2 := gdN hf
    have hf := gdK hf
    refine wd_iast X hP hS L1126 g_2 dX12_opens_49 (fun H locs mm_1 emm_1 hP hS => ?_)
    have hf := vl hf emm_1
    refine lv_aload_n hx hb dX12_opens_50 rfl (lv_at hl 0 rfl) ?_
    refine lv_dup hx hb dX12_opens_51 rfl ?_
    refine wd_getI X hP L1088 fl_X12_283 rfl dX12_opens_52 ?_
    refine lv_iconst (v := 1) hx hb dX12_opens_55 (by decide) ?_
    refine lv_iadd hx hb dX12_opens_56 ?_
    refine wd_putI X hP hS L1088 fp_X12_283 rfl dX12_opens_57 (fun H locs mm_3 emm_3 hP hS => ?_)
    have hf := vl hf emm_3
    obtain rfl := Option.some.inj hf
    exact wd_vret X hP hS hr0 dX12_opens_60 ⟨rfl, rfl⟩
  have hJ30 : ∀ (mmJ_6 : Mm) (y1J_6 : Int32) (H : Heap) (locs : List Loc) (ls : Array Slot), f_X12_opens_j30 mmJ_6 y1J_6 = some m1 → Wd D dA bs LY mmJ_6 H → va_S (Aq bs) s.heap H locs → lv_has ls 2 [(0, .ref (bs + 1088)), (1, .int y1J_6)] → Wz p l e s m args below meth c D dA bs none m1 1 22 H locs 30 ls [] := by
    intro mmJ_6 y1J_6 H locs ls hf hP hS hl
    unfold f_X12_opens_j30 at hf
    refine lv_aload_n hx hb dX12_opens_30 rfl (lv_at hl 0 rfl) ?_
    refine lv_dup hx hb dX12_opens_31 rfl ?_
    refine wd_getI X hP L1088 fl_X12_286 rfl dX12_opens_32 ?_
    refine lv_iconst (v := 1) hx hb dX12_opens_35 (by decide) ?_
    refine lv_iadd hx hb dX12_opens_36 ?_
    refine wd_putI X hP hS L1088 fp_X12_286 rfl dX12_opens_37 (fun H locs mm_5 emm_5 hP hS => ?_)
    have hf := vl hf emm_5
    exact hJ40 mm_5 y1J_6 H locs ls hf hP hS (lv_sub hl [0, 1] rfl)
  have hJ12 : ∀ (mmJ_10 : Mm) (y1J_10 : Int32) (H : Heap) (locs : List Loc) (ls : Array Slot), f_X12_opens_j12 mmJ_10 y1J_10 = some m1 → Wd D dA bs LY mmJ_10 H → va_S (Aq bs) s.heap H locs → lv_has ls 2 [(0, .ref (bs + 1088)), (1, .int y1J_10)] → Wz p l e s m args below meth c D dA bs none m1 1 22 H locs 12 ls [] := by
    intro mmJ_10 y1J_10 H locs ls hf hP hS hl
    unfold f_X12_opens_j12 at hf
    refine lv_aload_n hx hb dX12_opens_12 rfl (lv_at hl 0 rfl) ?_
    refine wd_getI X hP L1088 fl_X12_286 rfl dX12_opens_13 ?_
    refine lv_bipush (v := 10) hx hb dX12_opens_16 (by decide) ?_
    refine lv_icmp_ne (tgt := 30) hx hb dX12_opens_18 (by decide) (fun c_7 => ?_) (fun c_7 => ?_)
    · have hf := itF hf c_7
      exact hJ30 mmJ_10 y1J_10 H locs ls hf hP hS (lv_sub hl [0, 1] rfl)
    · have hf := itT hf c_7
      refine lv_aload_n hx hb dX12_opens_21 rfl (lv_at hl 0 rfl) ?_
      refine lv_iconst (v := 2) hx hb dX12_opens_22 (by decide) ?_
      refine lv_aload_n hx hb dX12_opens_23 rfl (lv_at hl 0 rfl) ?_
      refine wd_getI X hP L1088 fl_X12_215 rfl dX12_opens_24 ?_
      obtain ⟨mm_8, hc_9, hf⟩ := bi1S hf
      refine wd_cv X hP hS L1088 ml_X12_251 ⟨_, _, rfl⟩ (c_X12_fails l D dA zz bs mmJ_10 (2 : Int32) (mmJ_10.1 1088 32) mm_8 hc_9) rfl ⟨Nat.le_of_ble_eq_true rfl, Nat.le_of_ble_eq_true rfl⟩ hl.1 rfl (rest := []) (Nat.le_of_ble_eq_true rfl) ⟨Nat.zero_le _, Nat.zero_le _⟩ dX12_opens_27 (fun H locs hP hS => ?_)
      refine W.eq (g2 := F0 m 30 ls []) rfl ?_
      exact hJ30 mm_8 y1J_10 H locs ls hf hP hS (lv_sub hl [0, 1] rfl)
  unfold f_X12_opens at hf
  refine lv_iload_n hx hb dX12_opens_0 rfl (lv_at hl 1 rfl) ?_
  refine lv_bipush (v := 9) hx hb dX12_opens_1 (by decide) ?_
  refine lv_icmp_eq (tgt := 12) hx hb dX12_opens_3 (by decide) (fun c_11 => ?_) (fun c_11 => ?_)
  · have hf := itT hf c_11
    exact hJ12 mm x1 H locs ls hf hP hS (lv_sub hl [0, 1] rfl)
  · have hf := itF hf c_11
    refine lv_iload_n hx hb dX12_opens_6 rfl (lv_at hl 1 rfl) ?_
    refine lv_bipush (v := 12) hx hb dX12_opens_7 (by decide) ?_
    refine lv_icmp_ne (tgt := 40) hx hb dX12_opens_9 (by decide) (fun c_12 => ?_) (fun c_12 => ?_)
    · have hf := itF hf c_12
      exact hJ40 mm x1 H locs ls hf hP hS (lv_sub hl [0, 1] rfl)
    · have hf := itT hf c_12
      exact hJ12 mm x1 H locs ls hf hP hS (lv_sub hl [0, 1] rfl)

noncomputable def f_X12_answers_j47 (mm : Mm) (y1 : Int32) (z0 : Int32) (z1 : Int32) : Option ((Mm) ⊕ (Mm)) :=
  vlet (wI mm 1088 37 (z1 - z0)) fun mm_1 => some (.inl mm_1)
noncomputable def f_X12_answers_s0 (y1 : Int32) : (Mm) → Option ((Mm) ⊕ (Mm)) :=
  fun (mm : Mm) =>
    bi1 (f_X12_top mm) fun r_4 =>
      if r_4 = y1 then
        if (mm.1 1088 33) = 0 then
          bi1 (f_X12_entry mm y1 (0 : Int32)) fun mm_7 =>
            vlet (wI mm_7 1088 39 ((mm_7.1 1088 39) - (1 : Int32))) fun mm_9 =>
              if y1 = (9 : Int32) then
                f_X12_answers_j47 mm_9 y1 (1 : Int32) (mm_9.1 1088 37)
              else
                f_X12_answers_j47 mm_9 y1 (0 : Int32) (mm_9.1 1088 37)
        else
          some (.inr mm)
      else
        some (.inr mm)
noncomputable def f_X12_answers (mm : Mm) (x1 : Int32) : Option (Mm) :=
  bi1 (lp (f_X12_answers_s0 x1) mm) fun mm_12 =>
    some mm_12
set_option maxHeartbeats 4000000 in
set_option maxRecDepth 100000 in
theorem c_X12_answers (l : Launch) (D : va_G) (dA : Nat → ClassId) (zz : (Nat → Nat) × (Nat → Nat)) (bs : Nat) (mm : Mm) (x1 : Int32) (m1 : Mm) (hf : f_X12_answers mm x1 = some m1) : Mw l D dA zz bs LY yX12_answers cX12_answers 2 none 1 22 [.ref (bs + 1088), .int x1] mm none m1 := by
  refine Mw.of (own := RX12) (by decide) rfl (Nat.le_of_ble_eq_true rfl) ?_
  intro p e s m args below meth c X hr0 hP hS ls hl
  have hx := X.1
  have hb := X.2.1
  obtain ⟨H, hH⟩ : ∃ z : Heap, z = s.heap := ⟨_, rfl⟩
  obtain ⟨locs, hL⟩ : ∃ z : List Loc, z = [] := ⟨_, rfl⟩
  rw [← hH, ← hL]
  have hS : va_S (Aq bs) s.heap H locs := by rw [hH, hL]; exact hS
  have hP : Wd D dA bs LY mm H := by rw [hH]; exact hP
  have hl : lv_has ls 2 [(0, .ref (bs + 1088)), (1, .int x1)] := hl
  unfold f_X12_answers at hf
  obtain ⟨q_13, hlp_14, hf⟩ := bi1S hf
  refine lp_walk (Wh := (fun mmL_11 => ∀ (H : Heap) (locs : List Loc) (ls : Array Slot), Wd D dA bs LY mmL_11 H → va_S (Aq bs) s.heap H locs → lv_has ls 2 [(0, .ref (bs + 1088)), (1, .int x1)] → Wz p l e s m args below meth c D dA bs none m1 1 22 H locs 0 ls [])) (Ph := (fun mm_12 => ∀ (H : Heap) (locs : List Loc) (ls : Array Slot), Wd D dA bs LY mm_12 H → va_S (Aq bs) s.heap H locs → lv_has ls 2 [] → Wz p l e s m args below meth c D dA bs none m1 1 22 H locs 54 ls [])) ?_ hlp_14 ?_ H locs ls hP hS (lv_sub hl [0, 1] rfl)
  · intro mmL_11 o hf hB hE
    intro H locs ls hP hS hl
    have hf : f_X12_answers_s0 x1 mmL_11 = some o := hf
    unfold f_X12_answers_s0 at hf
    have hJ47 : ∀ (mmJ_2 : Mm) (z0J_2 : Int32) (z1J_2 : Int32) (H : Heap) (locs : List Loc) (ls : Array Slot), f_X12_answers_j47 mmJ_2 x1 z0J_2 z1J_2 = some o → Wd D dA bs LY mmJ_2 H → va_S (Aq bs) s.heap H locs → lv_has ls 2 [(0, .ref (bs + 1088)), (1, .int x1)] → Wz p l e s m args below meth c D dA bs none m1 1 22 H locs 47 ls [.int z0J_2, .int z1J_2, .ref (bs + 1088)] := by
      intro mmJ_2 z0J_2 z1J_2 H locs ls hf hP hS hl
      unfold f_X12_answers_j47 at hf
      refine lv_isub hx hb dX12_answers_47 ?_
      refine wd_putI X hP hS L1088 fp_X12_286 rfl dX12_answers_48 (fun H locs mm_1 emm_1 hP hS => ?_)
      have hf := vl hf emm_1
      refine lv_goto (tgt := 0) hx hb dX12_answers_51 (by decide) ?_
      obtain rfl := Option.some.inj hf
      exact hB _ rfl H locs ls hP hS (lv_sub hl [0, 1] rfl)
    refine lv_aload_n hx hb dX12_answers_0 rfl (lv_at hl 0 rfl) ?_
    obtain ⟨r_4, hc_3, hf⟩ := bi1S hf
    refine wd_cv X hP hS L1088 ml_X12_289 ⟨_, _, rfl⟩ (c_X12_top l D dA zz bs mmL_11 r_4 hc_3) rfl ⟨Nat.le_of_ble_eq_true rfl, Nat.le_of_ble_eq_true rfl⟩ hl.1 rfl (rest := []) (Nat.le_of_ble_eq_true rfl) ⟨Nat.zero_le _, Nat.zero_le _⟩ dX12_answers_1 (fun H locs hP hS => ?_)
    refine W.eq (g2 := F0 m 4 ls [.int r_4]) rfl ?_
    refine lv_iload_n hx hb dX12_answers_4 rfl (lv_at hl 1 rfl) ?_
    refine lv_icmp_ne (tgt := 54) hx hb dX12_answers_5 (by decide) (fun c_5 => ?_) (fun c_5 => ?_)
    · have hf := itF hf c_5
      obtain rfl := Option.some.inj hf
      exact hE _ rfl H locs ls hP hS (lv_sub hl [] rfl)
    · have hf := itT hf c_5
      refine lv_aload_n hx hb dX12_answers_8 rfl (lv_at hl 0 rfl) ?_
      refine wd_getI X hP L1088 fl_X12_212 rfl dX12_answers_9 ?_
      refine lv_if_ne (tgt := 54) hx hb dX12_answers_12 (by decide) (fun c_6 => ?_) (fun c_6 => ?_)
      · have hf := itF hf c_6
        obtain rfl := Option.some.inj hf
        exact hE _ rfl H locs ls hP hS (lv_sub hl [] rfl)
      · have hf := itT hf c_6
        refine lv_aload_n hx hb dX12_answers_15 rfl (lv_at hl 0 rfl) ?_
        refine lv_iload_n hx hb dX12_answers_16 rfl (lv_at hl 1 rfl) ?_
        refine lv_iconst (v := 0) hx hb dX12_answers_17 (by decide) ?_
        obtain ⟨mm_7, hc_8, hf⟩ := bi1S hf
        refine wd_cv X hP hS L1088 ml_X12_267 ⟨_, _, rfl⟩ (c_X12_entry l D dA zz bs mmL_11 x1 (0 : Int32) mm_7 hc_8) rfl ⟨Nat.le_of_ble_eq_true rfl, Nat.le_of_ble_eq_true rfl⟩ hl.1 rfl (rest := []) (Nat.le_of_ble_eq_true rfl) ⟨Nat.zero_le _, Nat.zero_le _⟩ dX12_answers_18 (fun H locs hP hS => ?_)
        refine W.eq (g2 := F0 m 21 ls []) rfl ?_
        refine lv_aload_n hx hb dX12_answers_21 rfl (lv_at hl 0 rfl) ?_
        refine lv_dup hx hb dX12_answers_22 rfl ?_
        refine wd_getI X hP L1088 fl_X12_283 rfl dX12_answers_23 ?_
        refine lv_iconst (v := 1) hx hb dX12_answers_26 (by decide) ?_
        refine lv_isub hx hb dX12_answers_27 ?_
        refine wd_putI X hP hS L1088 fp_X12_283 rfl dX12_answers_28 (fun H locs mm_9 emm_9 hP hS => ?_)
        have hf := vl hf emm_9
        refine lv_aload_n hx hb dX12_answers_31 rfl (lv_at hl 0 rfl) ?_
        refine lv_dup hx hb dX12_answers_32 rfl ?_
        refine wd_getI X hP L1088 fl_X12_286 rfl dX12_answers_33 ?_
        refine lv_iload_n hx hb dX12_answers_36 rfl (lv_at hl 1 rfl) ?_
        refine lv_bipush (v := 9) hx hb dX12_answers_37 (by decide) ?_
        refine lv_icmp_ne (tgt := 46) hx hb dX12_answers_39 (by decide) (fun c_10 => ?_) (fun c_10 => ?_)
        · have hf := itF hf c_10
          refine lv_iconst (v := 0) hx hb dX12_answers_46 (by decide) ?_
          exact hJ47 mm_9 (0 : Int32) (mm_9.1 1088 37) H locs ls hf hP hS (lv_sub hl [0, 1] rfl)
        · have hf := itT hf c_10
          refine lv_iconst (v := 1) hx hb dX12_answers_42 (by decide) ?_
          refine lv_goto (tgt := 47) hx hb dX12_answers_43 (by decide) ?_
          exact hJ47 mm_9 (1 : Int32) (mm_9.1 1088 37) H locs ls hf hP hS (lv_sub hl [0, 1] rfl)
  · obtain ⟨mm_12, e_mm_12⟩ : ∃ z, z = q_13 := ⟨_, rfl⟩
    subst e_mm_12
    intro H locs ls hP hS hl
    obtain rfl := Option.some.inj hf
    exact wd_vret X hP hS hr0 dX12_answers_54 ⟨rfl, rfl⟩

noncomputable def f_X12_fact (mm : Mm) : Option (Int32 × Mm) :=
  bi1 (f_X12_blanks mm) fun mm_1 =>
    bi1 (f_X12_stood mm_1 4) fun r_4 =>
      if r_4 = 0 then
        bi1 (f_X12_sign mm_1) fun r_7 =>
          if r_7 = (91 : Int32) then
            bi1 (f_X12_opens mm_1 (12 : Int32)) fun mm_11 =>
              vlet (wI mm_11 1088 32 ((mm_11.1 1088 32) + (1 : Int32))) fun mm_13 => some ((0 : Int32), mm_13)
          else
            bi1 (f_X12_compared mm_1) fun mm_9 => some ((1 : Int32), mm_9)
      else
        bi1 (f_X12_opens mm_1 (9 : Int32)) fun mm_14 =>
          vlet (wI mm_14 1088 32 ((mm_14.1 1088 32) + (3 : Int32))) fun mm_16 => some ((0 : Int32), mm_16)
set_option maxHeartbeats 4000000 in
set_option maxRecDepth 100000 in
theorem c_X12_fact (l : Launch) (D : va_G) (dA : Nat → ClassId) (zz : (Nat → Nat) × (Nat → Nat)) (bs : Nat) (mm : Mm) (out : Int32) (m1 : Mm) (hf : f_X12_fact mm = some (out, m1)) : Mw l D dA zz bs LY yX12_fact cX12_fact 1 (some .boolean) 9 195 [.ref (bs + 1088)] mm (some (.int out)) m1 := by
  refine Mw.of (own := RX12) (by decide) rfl (Nat.le_of_ble_eq_true rfl) ?_
  intro p e s m args below meth c X hr0 hP hS ls hl
  have hx := X.1
  have hb := X.2.1
  obtain ⟨H, hH⟩ : ∃ z : Heap, z = s.heap := ⟨_, rfl⟩
  obtain ⟨locs, hL⟩ : ∃ z : List Loc, z = [] := ⟨_, rfl⟩
  rw [← hH, ← hL]
  have hS : va_S (Aq bs) s.heap H locs := by rw [hH, hL]; exact hS
  have hP : Wd D dA bs LY mm H := by rw [hH]; exact hP
  have hl : lv_has ls 1 [(0, .ref (bs + 1088))] := hl
  unfold f_X12_fact at hf
  refine lv_aload_n hx hb dX12_fact_0 rfl (lv_at hl 0 rfl) ?_
  obtain ⟨mm_1, hc_2, hf⟩ := bi1S hf
  refine wd_cv X hP hS L1088 ml_X12_235 ⟨_, _, rfl⟩ (c_X12_blanks l D dA zz bs mm mm_1 hc_2) rfl ⟨Nat.le_of_ble_eq_true rfl, Nat.le_of_ble_eq_true rfl⟩ hl.1 rfl (rest := []) (Nat.le_of_ble_eq_true rfl) ⟨Nat.zero_le _, Nat.zero_le _⟩ dX12_fact_1 (fun H locs hP hS => ?_)
  refine W.eq (g2 := F0 m 4 ls []) rfl ?_
  refine lv_aload_n hx hb dX12_fact_4 rfl (lv_at hl 0 rfl) ?_
  refine wd_ldcw (own := RX12) (q := zz.1 4) hx hb X.2.2.2.1 (X.2.2.2.2.2.2.1.2.1 ("PartyRaftModel", 292, "not", 4) (by decide)) dX12_fact_5 ?_
  obtain ⟨r_4, hc_3, hf⟩ := bi1S hf
  refine wd_cv X hP hS L1088 ml_X12_238 ⟨_, _, rfl⟩ (c_X12_stood l D dA zz bs mm_1 4 (by decide) r_4 hc_3) rfl ⟨Nat.le_of_ble_eq_true rfl, Nat.le_of_ble_eq_true rfl⟩ hl.1 rfl (rest := []) (Nat.le_of_ble_eq_true rfl) ⟨Nat.zero_le _, Nat.zero_le _⟩ dX12_fact_8 (fun H locs hP hS => ?_)
  refine W.eq (g2 := F0 m 11 ls [.int r_4]) rfl ?_
  refine lv_if_eq (tgt := 32) hx hb dX12_fact_11 (by decide) (fun c_5 => ?_) (fun c_5 => ?_)
  · have hf := itT hf c_5
    refine lv_aload_n hx hb dX12_fact_32 rfl (lv_at hl 0 rfl) ?_
    obtain ⟨r_7, hc_6, hf⟩ := bi1S hf
    refine wd_cv X hP hS L1088 ml_X12_218 ⟨_, _, rfl⟩ (c_X12_sign l D dA zz bs mm_1 r_7 hc_6) rfl ⟨Nat.le_of_ble_eq_true rfl, Nat.le_of_ble_eq_true rfl⟩ hl.1 rfl (rest := []) (Nat.le_of_ble_eq_true rfl) ⟨Nat.zero_le _, Nat.zero_le _⟩ dX12_fact_33 (fun H locs hP hS => ?_)
    refine W.eq (g2 := F0 m 36 ls [.int r_7]) rfl ?_
    refine lv_bipush (v := 91) hx hb dX12_fact_36 (by decide) ?_
    refine lv_icmp_ne (tgt := 59) hx hb dX12_fact_38 (by decide) (fun c_8 => ?_) (fun c_8 => ?_)
    · have hf := itF hf c_8
      refine lv_aload_n hx hb dX12_fact_59 rfl (lv_at hl 0 rfl) ?_
      obtain ⟨mm_9, hc_10, hf⟩ := bi1S hf
      refine wd_cv X hP hS L1088 ml_X12_297 ⟨_, _, rfl⟩ (c_X12_compared l D dA zz bs mm_1 mm_9 hc_10) rfl ⟨Nat.le_of_ble_eq_true rfl, Nat.le_of_ble_eq_true rfl⟩ hl.1 rfl (rest := []) (Nat.le_of_ble_eq_true rfl) ⟨Nat.zero_le _, Nat.zero_le _⟩ dX12_fact_60 (fun H locs hP hS => ?_)
      refine W.eq (g2 := F0 m 63 ls []) rfl ?_
      refine lv_iconst (v := 1) hx hb dX12_fact_63 (by decide) ?_
      obtain ⟨rfl, rfl⟩ := Prod.mk.inj (Option.some.inj hf)
      exact wd_zret X hP hS hr0 (by decide) dX12_fact_64 ⟨rfl, rfl⟩
    · have hf := itT hf c_8
      refine lv_aload_n hx hb dX12_fact_41 rfl (lv_at hl 0 rfl) ?_
      refine lv_bipush (v := 12) hx hb dX12_fact_42 (by decide) ?_
      obtain ⟨mm_11, hc_12, hf⟩ := bi1S hf
      refine wd_cv X hP hS L1088 ml_X12_294 ⟨_, _, rfl⟩ (c_X12_opens l D dA zz bs mm_1 (12 : Int32) mm_11 hc_12) rfl ⟨Nat.le_of_ble_eq_true rfl, Nat.le_of_ble_eq_true rfl⟩ hl.1 rfl (rest := []) (Nat.le_of_ble_eq_true rfl) ⟨Nat.zero_le _, Nat.zero_le _⟩ dX12_fact_44 (fun H locs hP hS => ?_)
      refine W.eq (g2 := F0 m 47 ls []) rfl ?_
      refine lv_aload_n hx hb dX12_fact_47 rfl (lv_at hl 0 rfl) ?_
      refine lv_dup hx hb dX12_fact_48 rfl ?_
      refine wd_getI X hP L1088 fl_X12_215 rfl dX12_fact_49 ?_
      refine lv_iconst (v := 1) hx hb dX12_fact_52 (by decide) ?_
      refine lv_iadd hx hb dX12_fact_53 ?_
      refine wd_putI X hP hS L1088 fp_X12_215 rfl dX12_fact_54 (fun H locs mm_13 emm_13 hP hS => ?_)
      have hf := vl hf emm_13
      refine lv_iconst (v := 0) hx hb dX12_fact_57 (by decide) ?_
      obtain ⟨rfl, rfl⟩ := Prod.mk.inj (Option.some.inj hf)
      exact wd_zret X hP hS hr0 (by decide) dX12_fact_58 ⟨rfl, rfl⟩
  · have hf := itF hf c_5
    refine lv_aload_n hx hb dX12_fact_14 rfl (lv_at hl 0 rfl) ?_
    refine lv_bipush (v := 9) hx hb dX12_fact_15 (by decide) ?_
    obtain ⟨mm_14, hc_15, hf⟩ := bi1S hf
    refine wd_cv X hP hS L1088 ml_X12_294 ⟨_, _, rfl⟩ (c_X12_opens l D dA zz bs mm_1 (9 : Int32) mm_14 hc_15) rfl ⟨Nat.le_of_ble_eq_true rfl, Nat.le_of_ble_eq_true rfl⟩ hl.1 rfl (rest := []) (Nat.le_of_ble_eq_true rfl) ⟨Nat.zero_le _, Nat.zero_le _⟩ dX12_fact_17 (fun H locs hP hS => ?_)
    refine W.eq (g2 := F0 m 20 ls []) rfl ?_
    refine lv_aload_n hx hb dX12_fact_20 rfl (lv_at hl 0 rfl) ?_
    refine lv_dup hx hb dX12_fact_21 rfl ?_
    refine wd_getI X hP L1088 fl_X12_215 rfl dX12_fact_22 ?_
    refine lv_iconst (v := 3) hx hb dX12_fact_25 (by decide) ?_
    refine lv_iadd hx hb dX12_fact_26 ?_
    refine wd_putI X hP hS L1088 fp_X12_215 rfl dX12_fact_27 (fun H locs mm_16 emm_16 hP hS => ?_)
    have hf := vl hf emm_16
    refine lv_iconst (v := 0) hx hb dX12_fact_30 (by decide) ?_
    obtain ⟨rfl, rfl⟩ := Prod.mk.inj (Option.some.inj hf)
    exact wd_zret X hP hS hr0 (by decide) dX12_fact_31 ⟨rfl, rfl⟩

noncomputable def f_X12_test_j164 (mm : Mm) (y1 : Int32) (y2 : Int32) : Option ((Int32 × Int32 × Mm) ⊕ (Mm)) :=
  vlet (wI mm 1088 32 ((mm.1 1088 32) + (1 : Int32))) fun mm_2 =>
    vlet (wI mm_2 1088 39 ((mm_2.1 1088 39) - (1 : Int32))) fun mm_3 =>
      vlet (wI mm_3 1088 37 ((mm_3.1 1088 37) - (1 : Int32))) fun mm_4 => some (.inl (y1, y2, mm_4))
noncomputable def f_X12_test_j122 (mm : Mm) (y2 : Int32) (z0 : Int32) (z1 : Int32) : Option ((Int32 × Int32 × Mm) ⊕ (Mm)) :=
  vlet (wI mm 1088 32 (z1 + z0)) fun mm_6 => some (.inl ((1 : Int32), y2, mm_6))
noncomputable def f_X12_test_j105 (mm : Mm) (y2 : Int32) (y3 : Int32) (z0 : Int32) : Option ((Int32 × Int32 × Mm) ⊕ (Mm)) :=
  bi1 (f_X12_opens mm z0) fun mm_8 =>
    if y3 = 0 then
      f_X12_test_j122 mm_8 y2 (2 : Int32) (mm_8.1 1088 32)
    else
      f_X12_test_j122 mm_8 y2 (3 : Int32) (mm_8.1 1088 32)
noncomputable def f_X12_test_j93 (mm : Mm) (y2 : Int32) (y3 : Int32) : Option ((Int32 × Int32 × Mm) ⊕ (Mm)) :=
  if y3 = 0 then
    f_X12_test_j105 mm y2 y3 (11 : Int32)
  else
    f_X12_test_j105 mm y2 y3 (10 : Int32)
noncomputable def f_X12_test_j82 (mm : Mm) (y2 : Int32) (y3 : Int32) (y4 : Int32) : Option ((Int32 × Int32 × Mm) ⊕ (Mm)) :=
  if y4 = 0 then
    f_X12_test_j93 mm y2 y3
  else
    bi1 (f_X12_answers mm (11 : Int32)) fun mm_15 => f_X12_test_j93 mm_15 y2 y3
noncomputable def f_X12_test_j36 (mm : Mm) (y2 : Int32) (z0 : Int32) : Option ((Int32 × Int32 × Mm) ⊕ (Mm)) :=
  some (.inl (z0, y2, mm))
noncomputable def f_X12_test_s9  : (Int32 × Int32 × Mm) → Option ((Int32 × Int32 × Mm) ⊕ (Mm)) :=
  fun q => match q with
  | (y1, y2, mm) =>
    if y2 = 0 then
      some (.inr mm)
    else
      if (mm.1 1088 33) = 0 then
        if y1 = 0 then
          bi1 (f_X12_answers mm (9 : Int32)) fun mm_22 =>
            bi1 (f_X12_blanks mm_22) fun mm_24 =>
              bi1 (f_X12_stood mm_24 5) fun r_27 =>
                bi1 (f_X12_stood mm_24 6) fun r_29 =>
                  bi1 (f_X12_answers mm_24 (10 : Int32)) fun mm_30 =>
                    if r_27 = 0 then
                      if r_29 = 0 then
                        bi1 (f_X12_answers mm_30 (11 : Int32)) fun mm_34 =>
                          bi1 (f_X12_top mm_34) fun r_37 =>
                            if r_37 = (12 : Int32) then
                              bi1 (f_X12_sign mm_34) fun r_40 =>
                                if r_40 = (93 : Int32) then
                                  f_X12_test_j164 mm_34 y1 y2
                                else
                                  bi1 (f_X12_fails mm_34 (0 : Int32) (mm_34.1 1088 32)) fun mm_42 => f_X12_test_j164 mm_42 y1 y2
                            else
                              some (.inl (y1, (0 : Int32), mm_34))
                      else
                        f_X12_test_j82 mm_30 y2 r_27 r_29
                    else
                      f_X12_test_j82 mm_30 y2 r_27 r_29
        else
          bi2 (f_X12_fact mm) fun r_46 mm_44 =>
            if r_46 = 0 then
              f_X12_test_j36 mm_44 y2 (1 : Int32)
            else
              f_X12_test_j36 mm_44 y2 (0 : Int32)
      else
        some (.inr mm)
noncomputable def f_X12_test (mm : Mm) : Option (Mm) :=
  vlet (wI mm 1088 39 (0 : Int32)) fun mm_1 =>
    bi1 (lp (f_X12_test_s9) ((1 : Int32), (1 : Int32), mm_1)) fun mm_49 =>
      some mm_49
set_option maxHeartbeats 4000000 in
set_option maxRecDepth 100000 in
theorem c_X12_test (l : Launch) (D : va_G) (dA : Nat → ClassId) (zz : (Nat → Nat) × (Nat → Nat)) (bs : Nat) (mm : Mm) (m1 : Mm) (hf : f_X12_test mm = some m1) : Mw l D dA zz bs LY yX12_test cX12_test 5 none 10 215 [.ref (bs + 1088)] mm none m1 := by
  refine Mw.of (own := RX12) (by decide) rfl (Nat.le_of_ble_eq_true rfl) ?_
  intro p e s m args below meth c X hr0 hP hS ls hl
  have hx := X.1
  have hb := X.2.1
  obtain ⟨H, hH⟩ : ∃ z : Heap, z = s.heap := ⟨_, rfl⟩
  obtain ⟨locs, hL⟩ : ∃ z : List Loc, z = [] := ⟨_, rfl⟩
  rw [← hH, ← hL]
  have hS : va_S (Aq bs) s.heap H locs := by rw [hH, hL]; exact hS
  have hP : Wd D dA bs LY mm H := by rw [hH]; exact hP
  have hl : lv_has ls 5 [(0, .ref (bs + 1088))] := hl
  unfold f_X12_test at hf
  refine lv_aload_n hx hb dX12_test_0 rfl (lv_at hl 0 rfl) ?_
  refine lv_iconst (v := 0) hx hb dX12_test_1 (by decide) ?_
  refine wd_putI X hP hS L1088 fp_X12_283 rfl dX12_test_2 (fun H locs mm_1 emm_1 hP hS => ?_)
  have hf := vl hf emm_1
  refine lv_iconst (v := 1) hx hb dX12_test_5 (by decide) ?_
  refine lv_istore_n (lv' := [(1, .int (1 : Int32)), (0, .ref (bs + 1088))]) hx hb dX12_test_6 rfl hl (by decide) rfl (fun ls hl => ?_)
  refine lv_iconst (v := 1) hx hb dX12_test_7 (by decide) ?_
  refine lv_istore_n (lv' := [(2, .int (1 : Int32)), (1, .int (1 : Int32)), (0, .ref (bs + 1088))]) hx hb dX12_test_8 rfl hl (by decide) rfl (fun ls hl => ?_)
  obtain ⟨q_50, hlp_51, hf⟩ := bi1S hf
  refine lp_walk (Wh := (fun z => match z with | (y1L_48, y2L_48, mmL_48) => ∀ (H : Heap) (locs : List Loc) (ls : Array Slot), Wd D dA bs LY mmL_48 H → va_S (Aq bs) s.heap H locs → lv_has ls 5 [(0, .ref (bs + 1088)), (1, .int y1L_48), (2, .int y2L_48)] → Wz p l e s m args below meth c D dA bs none m1 10 215 H locs 9 ls [])) (Ph := (fun mm_49 => ∀ (H : Heap) (locs : List Loc) (ls : Array Slot), Wd D dA bs LY mm_49 H → va_S (Aq bs) s.heap H locs → lv_has ls 5 [] → Wz p l e s m args below meth c D dA bs none m1 10 215 H locs 202 ls [])) ?_ hlp_51 ?_ H locs ls hP hS (lv_sub hl [2, 1, 0] rfl)
  · intro z o hf hB hE
    obtain ⟨y1L_48, y2L_48, mmL_48⟩ := z
    intro H locs ls hP hS hl
    have hf : f_X12_test_s9 (y1L_48, y2L_48, mmL_48) = some o := hf
    unfold f_X12_test_s9 at hf
    dsimp only at hf
    have hJ164 : ∀ (mmJ_5 : Mm) (y1J_5 : Int32) (y2J_5 : Int32) (H : Heap) (locs : List Loc) (ls : Array Slot), f_X12_test_j164 mmJ_5 y1J_5 y2J_5 = some o → Wd D dA bs LY mmJ_5 H → va_S (Aq bs) s.heap H locs → lv_has ls 5 [(0, .ref (bs + 1088)), (1, .int y1J_5), (2, .int y2J_5)] → Wz p l e s m args below meth c D dA bs none m1 10 215 H locs 164 ls [] := by
      intro mmJ_5 y1J_5 y2J_5 H locs ls hf hP hS hl
      unfold f_X12_test_j164 at hf
      refine lv_aload_n hx hb dX12_test_164 rfl (lv_at hl 0 rfl) ?_
      refine lv_dup hx hb dX12_test_165 rfl ?_
      refine wd_getI X hP L1088 fl_X12_215 rfl dX12_test_166 ?_
      refine lv_iconst (v := 1) hx hb dX12_test_169 (by decide) ?_
      refine lv_iadd hx hb dX12_test_170 ?_
      refine wd_putI X hP hS L1088 fp_X12_215 rfl dX12_test_171 (fun H locs mm_2 emm_2 hP hS => ?_)
      have hf := vl hf emm_2
      refine lv_aload_n hx hb dX12_test_174 rfl (lv_at hl 0 rfl) ?_
      refine lv_dup hx hb dX12_test_175 rfl ?_
      refine wd_getI X hP L1088 fl_X12_283 rfl dX12_test_176 ?_
      refine lv_iconst (v := 1) hx hb dX12_test_179 (by decide) ?_
      refine lv_isub hx hb dX12_test_180 ?_
      refine wd_putI X hP hS L1088 fp_X12_283 rfl dX12_test_181 (fun H locs mm_3 emm_3 hP hS => ?_)
      have hf := vl hf emm_3
      refine lv_aload_n hx hb dX12_test_184 rfl (lv_at hl 0 rfl) ?_
      refine lv_dup hx hb dX12_test_185 rfl ?_
      refine wd_getI X hP L1088 fl_X12_286 rfl dX12_test_186 ?_
      refine lv_iconst (v := 1) hx hb dX12_test_189 (by decide) ?_
      refine lv_isub hx hb dX12_test_190 ?_
      refine wd_putI X hP hS L1088 fp_X12_286 rfl dX12_test_191 (fun H locs mm_4 emm_4 hP hS => ?_)
      have hf := vl hf emm_4
      refine lv_goto (tgt := 199) hx hb dX12_test_194 (by decide) ?_
      refine lv_goto (tgt := 9) hx hb dX12_test_199 (by decide) ?_
      obtain rfl := Option.some.inj hf
      exact hB _ rfl H locs ls hP hS (lv_sub hl [0, 1, 2] rfl)
    have hJ122 : ∀ (mmJ_7 : Mm) (y2J_7 : Int32) (z0J_7 : Int32) (z1J_7 : Int32) (H : Heap) (locs : List Loc) (ls : Array Slot), f_X12_test_j122 mmJ_7 y2J_7 z0J_7 z1J_7 = some o → Wd D dA bs LY mmJ_7 H → va_S (Aq bs) s.heap H locs → lv_has ls 5 [(0, .ref (bs + 1088)), (2, .int y2J_7)] → Wz p l e s m args below meth c D dA bs none m1 10 215 H locs 122 ls [.int z0J_7, .int z1J_7, .ref (bs + 1088)] := by
      intro mmJ_7 y2J_7 z0J_7 z1J_7 H locs ls hf hP hS hl
      unfold f_X12_test_j122 at hf
      refine lv_iadd hx hb dX12_test_122 ?_
      refine wd_putI X hP hS L1088 fp_X12_215 rfl dX12_test_123 (fun H locs mm_6 emm_6 hP hS => ?_)
      have hf := vl hf emm_6
      refine lv_iconst (v := 1) hx hb dX12_test_126 (by decide) ?_
      refine lv_istore_n (lv' := [(1, .int (1 : Int32)), (0, .ref (bs + 1088)), (2, .int y2J_7)]) hx hb dX12_test_127 rfl hl (by decide) rfl (fun ls hl => ?_)
      refine lv_goto (tgt := 199) hx hb dX12_test_128 (by decide) ?_
      refine lv_goto (tgt := 9) hx hb dX12_test_199 (by decide) ?_
      obtain rfl := Option.some.inj hf
      exact hB _ rfl H locs ls hP hS (lv_sub hl [1, 0, 2] rfl)
    have hJ105 : ∀ (mmJ_11 : Mm) (y2J_11 : Int32) (y3J_11 : Int32) (z0J_11 : Int32) (H : Heap) (locs : List Loc) (ls : Array Slot), f_X12_test_j105 mmJ_11 y2J_11 y3J_11 z0J_11 = some o → Wd D dA bs LY mmJ_11 H → va_S (Aq bs) s.heap H locs → lv_has ls 5 [(0, .ref (bs + 1088)), (2, .int y2J_11), (3, .int y3J_11)] → Wz p l e s m args below meth c D dA bs none m1 10 215 H locs 105 ls [.int z0J_11, .ref (bs + 1088)] := by
      intro mmJ_11 y2J_11 y3J_11 z0J_11 H locs ls hf hP hS hl
      unfold f_X12_test_j105 at hf
      obtain ⟨mm_8, hc_9, hf⟩ := bi1S hf
      refine wd_cv X hP hS L1088 ml_X12_294 ⟨_, _, rfl⟩ (c_X12_opens l D dA zz bs mmJ_11 z0J_11 mm_8 hc_9) rfl ⟨Nat.le_of_ble_eq_true rfl, Nat.le_of_ble_eq_true rfl⟩ hl.1 rfl (rest := []) (Nat.le_of_ble_eq_true rfl) ⟨Nat.zero_le _, Nat.zero_le _⟩ dX12_test_105 (fun H locs hP hS => ?_)
      refine W.eq (g2 := F0 m 108 ls []) rfl ?_
      refine lv_aload_n hx hb dX12_test_108 rfl (lv_at hl 0 rfl) ?_
      refine lv_dup hx hb dX12_test_109 rfl ?_
      refine wd_getI X hP L1088 fl_X12_215 rfl dX12_test_110 ?_
      refine lv_iload_n hx hb dX12_test_113 rfl (lv_at hl 2 rfl) ?_
      refine lv_if_eq (tgt := 121) hx hb dX12_test_114 (by decide) (fun c_10 => ?_) (fun c_10 => ?_)
      · have hf := itT hf c_10
        refine lv_iconst (v := 2) hx hb dX12_test_121 (by decide) ?_
        exact hJ122 mm_8 y2J_11 (2 : Int32) (mm_8.1 1088 32) H locs ls hf hP hS (lv_sub hl [0, 1] rfl)
      · have hf := itF hf c_10
        refine lv_iconst (v := 3) hx hb dX12_test_117 (by decide) ?_
        refine lv_goto (tgt := 122) hx hb dX12_test_118 (by decide) ?_
        exact hJ122 mm_8 y2J_11 (3 : Int32) (mm_8.1 1088 32) H locs ls hf hP hS (lv_sub hl [0, 1] rfl)
    have hJ93 : ∀ (mmJ_13 : Mm) (y2J_13 : Int32) (y3J_13 : Int32) (H : Heap) (locs : List Loc) (ls : Array Slot), f_X12_test_j93 mmJ_13 y2J_13 y3J_13 = some o → Wd D dA bs LY mmJ_13 H → va_S (Aq bs) s.heap H locs → lv_has ls 5 [(0, .ref (bs + 1088)), (2, .int y2J_13), (3, .int y3J_13)] → Wz p l e s m args below meth c D dA bs none m1 10 215 H locs 93 ls [] := by
      intro mmJ_13 y2J_13 y3J_13 H locs ls hf hP hS hl
      unfold f_X12_test_j93 at hf
      refine lv_aload_n hx hb dX12_test_93 rfl (lv_at hl 0 rfl) ?_
      refine lv_iload_n hx hb dX12_test_94 rfl (lv_at hl 2 rfl) ?_
      refine lv_if_eq (tgt := 103) hx hb dX12_test_95 (by decide) (fun c_12 => ?_) (fun c_12 => ?_)
      · have hf := itT hf c_12
        refine lv_bipush (v := 11) hx hb dX12_test_103 (by decide) ?_
        exact hJ105 mmJ_13 y2J_13 y3J_13 (11 : Int32) H locs ls hf hP hS (lv_sub hl [0, 1, 2] rfl)
      · have hf := itF hf c_12
        refine lv_bipush (v := 10) hx hb dX12_test_98 (by decide) ?_
        refine lv_goto (tgt := 105) hx hb dX12_test_100 (by decide) ?_
        exact hJ105 mmJ_13 y2J_13 y3J_13 (10 : Int32) H locs ls hf hP hS (lv_sub hl [0, 1, 2] rfl)
    have hJ82 : ∀ (mmJ_17 : Mm) (y2J_17 : Int32) (y3J_17 : Int32) (y4J_17 : Int32) (H : Heap) (locs : List Loc) (ls : Array Slot), f_X12_test_j82 mmJ_17 y2J_17 y3J_17 y4J_17 = some o → Wd D dA bs LY mmJ_17 H → va_S (Aq bs) s.heap H locs → lv_has ls 5 [(0, .ref (bs + 1088)), (2, .int y2J_17), (3, .int y3J_17), (4, .int y4J_17)] → Wz p l e s m args below meth c D dA bs none m1 10 215 H locs 82 ls [] := by
      intro mmJ_17 y2J_17 y3J_17 y4J_17 H locs ls hf hP hS hl
      unfold f_X12_test_j82 at hf
      refine lv_iload hx hb dX12_test_82 (lv_at hl 3 rfl) ?_
      refine lv_if_eq (tgt := 93) hx hb dX12_test_84 (by decide) (fun c_14 => ?_) (fun c_14 => ?_)
      · have hf := itT hf c_14
        exact hJ93 mmJ_17 y2J_17 y3J_17 H locs ls hf hP hS (lv_sub hl [0, 1, 2] rfl)
      · have hf := itF hf c_14
        refine lv_aload_n hx hb dX12_test_87 rfl (lv_at hl 0 rfl) ?_
        refine lv_bipush (v := 11) hx hb dX12_test_88 (by decide) ?_
        obtain ⟨mm_15, hc_16, hf⟩ := bi1S hf
        refine wd_cv X hP hS L1088 ml_X12_303 ⟨_, _, rfl⟩ (c_X12_answers l D dA zz bs mmJ_17 (11 : Int32) mm_15 hc_16) rfl ⟨Nat.le_of_ble_eq_true rfl, Nat.le_of_ble_eq_true rfl⟩ hl.1 rfl (rest := []) (Nat.le_of_ble_eq_true rfl) ⟨Nat.zero_le _, Nat.zero_le _⟩ dX12_test_90 (fun H locs hP hS => ?_)
        refine W.eq (g2 := F0 m 93 ls []) rfl ?_
        exact hJ93 mm_15 y2J_17 y3J_17 H locs ls hf hP hS (lv_sub hl [0, 1, 2] rfl)
    have hJ36 : ∀ (mmJ_18 : Mm) (y2J_18 : Int32) (z0J_18 : Int32) (H : Heap) (locs : List Loc) (ls : Array Slot), f_X12_test_j36 mmJ_18 y2J_18 z0J_18 = some o → Wd D dA bs LY mmJ_18 H → va_S (Aq bs) s.heap H locs → lv_has ls 5 [(0, .ref (bs + 1088)), (2, .int y2J_18)] → Wz p l e s m args below meth c D dA bs none m1 10 215 H locs 36 ls [.int z0J_18] := by
      intro mmJ_18 y2J_18 z0J_18 H locs ls hf hP hS hl
      unfold f_X12_test_j36 at hf
      refine lv_istore_n (lv' := [(1, .int z0J_18), (0, .ref (bs + 1088)), (2, .int y2J_18)]) hx hb dX12_test_36 rfl hl (by decide) rfl (fun ls hl => ?_)
      refine lv_goto (tgt := 9) hx hb dX12_test_37 (by decide) ?_
      obtain rfl := Option.some.inj hf
      exact hB _ rfl H locs ls hP hS (lv_sub hl [1, 0, 2] rfl)
    refine lv_iload_n hx hb dX12_test_9 rfl (lv_at hl 2 rfl) ?_
    refine lv_if_eq (tgt := 202) hx hb dX12_test_10 (by decide) (fun c_19 => ?_) (fun c_19 => ?_)
    · have hf := itT hf c_19
      obtain rfl := Option.some.inj hf
      exact hE _ rfl H locs ls hP hS (lv_sub hl [] rfl)
    · have hf := itF hf c_19
      refine lv_aload_n hx hb dX12_test_13 rfl (lv_at hl 0 rfl) ?_
      refine wd_getI X hP L1088 fl_X12_212 rfl dX12_test_14 ?_
      refine lv_if_ne (tgt := 202) hx hb dX12_test_17 (by decide) (fun c_20 => ?_) (fun c_20 => ?_)
      · have hf := itF hf c_20
        obtain rfl := Option.some.inj hf
        exact hE _ rfl H locs ls hP hS (lv_sub hl [] rfl)
      · have hf := itT hf c_20
        refine lv_iload_n hx hb dX12_test_20 rfl (lv_at hl 1 rfl) ?_
        refine lv_if_eq (tgt := 40) hx hb dX12_test_21 (by decide) (fun c_21 => ?_) (fun c_21 => ?_)
        · have hf := itT hf c_21
          refine lv_aload_n hx hb dX12_test_40 rfl (lv_at hl 0 rfl) ?_
          refine lv_bipush (v := 9) hx hb dX12_test_41 (by decide) ?_
          obtain ⟨mm_22, hc_23, hf⟩ := bi1S hf
          refine wd_cv X hP hS L1088 ml_X12_303 ⟨_, _, rfl⟩ (c_X12_answers l D dA zz bs mmL_48 (9 : Int32) mm_22 hc_23) rfl ⟨Nat.le_of_ble_eq_true rfl, Nat.le_of_ble_eq_true rfl⟩ hl.1 rfl (rest := []) (Nat.le_of_ble_eq_true rfl) ⟨Nat.zero_le _, Nat.zero_le _⟩ dX12_test_43 (fun H locs hP hS => ?_)
          refine W.eq (g2 := F0 m 46 ls []) rfl ?_
          refine lv_aload_n hx hb dX12_test_46 rfl (lv_at hl 0 rfl) ?_
          obtain ⟨mm_24, hc_25, hf⟩ := bi1S hf
          refine wd_cv X hP hS L1088 ml_X12_235 ⟨_, _, rfl⟩ (c_X12_blanks l D dA zz bs mm_22 mm_24 hc_25) rfl ⟨Nat.le_of_ble_eq_true rfl, Nat.le_of_ble_eq_true rfl⟩ hl.1 rfl (rest := []) (Nat.le_of_ble_eq_true rfl) ⟨Nat.zero_le _, Nat.zero_le _⟩ dX12_test_47 (fun H locs hP hS => ?_)
          refine W.eq (g2 := F0 m 50 ls []) rfl ?_
          refine lv_aload_n hx hb dX12_test_50 rfl (lv_at hl 0 rfl) ?_
          refine wd_ldcw (own := RX12) (q := zz.1 5) hx hb X.2.2.2.1 (X.2.2.2.2.2.2.1.2.1 ("PartyRaftModel", 306, "and", 5) (by decide)) dX12_test_51 ?_
          obtain ⟨r_27, hc_26, hf⟩ := bi1S hf
          refine wd_cv X hP hS L1088 ml_X12_238 ⟨_, _, rfl⟩ (c_X12_stood l D dA zz bs mm_24 5 (by decide) r_27 hc_26) rfl ⟨Nat.le_of_ble_eq_true rfl, Nat.le_of_ble_eq_true rfl⟩ hl.1 rfl (rest := []) (Nat.le_of_ble_eq_true rfl) ⟨Nat.zero_le _, Nat.zero_le _⟩ dX12_test_54 (fun H locs hP hS => ?_)
          refine W.eq (g2 := F0 m 57 ls [.int r_27]) rfl ?_
          refine lv_istore_n (lv' := [(3, .int r_27), (0, .ref (bs + 1088)), (1, .int y1L_48), (2, .int y2L_48)]) hx hb dX12_test_57 rfl hl (by decide) rfl (fun ls hl => ?_)
          refine lv_aload_n hx hb dX12_test_58 rfl (lv_at hl 1 rfl) ?_
          refine wd_ldcw (own := RX12) (q := zz.1 6) hx hb X.2.2.2.1 (X.2.2.2.2.2.2.1.2.1 ("PartyRaftModel", 308, "or", 6) (by decide)) dX12_test_59 ?_
          obtain ⟨r_29, hc_28, hf⟩ := bi1S hf
          refine wd_cv X hP hS L1088 ml_X12_238 ⟨_, _, rfl⟩ (c_X12_stood l D dA zz bs mm_24 6 (by decide) r_29 hc_28) rfl ⟨Nat.le_of_ble_eq_true rfl, Nat.le_of_ble_eq_true rfl⟩ hl.1 rfl (rest := []) (Nat.le_of_ble_eq_true rfl) ⟨Nat.zero_le _, Nat.zero_le _⟩ dX12_test_62 (fun H locs hP hS => ?_)
          refine W.eq (g2 := F0 m 65 ls [.int r_29]) rfl ?_
          refine lv_istore (lv' := [(4, .int r_29), (3, .int r_27), (0, .ref (bs + 1088)), (1, .int y1L_48), (2, .int y2L_48)]) hx hb dX12_test_65 hl (by decide) rfl (fun ls hl => ?_)
          refine lv_aload_n hx hb dX12_test_67 rfl (lv_at hl 2 rfl) ?_
          refine lv_bipush (v := 10) hx hb dX12_test_68 (by decide) ?_
          obtain ⟨mm_30, hc_31, hf⟩ := bi1S hf
          refine wd_cv X hP hS L1088 ml_X12_303 ⟨_, _, rfl⟩ (c_X12_answers l D dA zz bs mm_24 (10 : Int32) mm_30 hc_31) rfl ⟨Nat.le_of_ble_eq_true rfl, Nat.le_of_ble_eq_true rfl⟩ hl.1 rfl (rest := []) (Nat.le_of_ble_eq_true rfl) ⟨Nat.zero_le _, Nat.zero_le _⟩ dX12_test_70 (fun H locs hP hS => ?_)
          refine W.eq (g2 := F0 m 73 ls []) rfl ?_
          refine lv_iload_n hx hb dX12_test_73 rfl (lv_at hl 1 rfl) ?_
          refine lv_if_ne (tgt := 82) hx hb dX12_test_74 (by decide) (fun c_32 => ?_) (fun c_32 => ?_)
          · have hf := itF hf c_32
            exact hJ82 mm_30 y2L_48 r_27 r_29 H locs ls hf hP hS (lv_sub hl [2, 4, 1, 0] rfl)
          · have hf := itT hf c_32
            refine lv_iload hx hb dX12_test_77 (lv_at hl 0 rfl) ?_
            refine lv_if_eq (tgt := 131) hx hb dX12_test_79 (by decide) (fun c_33 => ?_) (fun c_33 => ?_)
            · have hf := itT hf c_33
              refine lv_aload_n hx hb dX12_test_131 rfl (lv_at hl 2 rfl) ?_
              refine lv_bipush (v := 11) hx hb dX12_test_132 (by decide) ?_
              obtain ⟨mm_34, hc_35, hf⟩ := bi1S hf
              refine wd_cv X hP hS L1088 ml_X12_303 ⟨_, _, rfl⟩ (c_X12_answers l D dA zz bs mm_30 (11 : Int32) mm_34 hc_35) rfl ⟨Nat.le_of_ble_eq_true rfl, Nat.le_of_ble_eq_true rfl⟩ hl.1 rfl (rest := []) (Nat.le_of_ble_eq_true rfl) ⟨Nat.zero_le _, Nat.zero_le _⟩ dX12_test_134 (fun H locs hP hS => ?_)
              refine W.eq (g2 := F0 m 137 ls []) rfl ?_
              refine lv_aload_n hx hb dX12_test_137 rfl (lv_at hl 2 rfl) ?_
              obtain ⟨r_37, hc_36, hf⟩ := bi1S hf
              refine wd_cv X hP hS L1088 ml_X12_289 ⟨_, _, rfl⟩ (c_X12_top l D dA zz bs mm_34 r_37 hc_36) rfl ⟨Nat.le_of_ble_eq_true rfl, Nat.le_of_ble_eq_true rfl⟩ hl.1 rfl (rest := []) (Nat.le_of_ble_eq_true rfl) ⟨Nat.zero_le _, Nat.zero_le _⟩ dX12_test_138 (fun H locs hP hS => ?_)
              refine W.eq (g2 := F0 m 141 ls [.int r_37]) rfl ?_
              refine lv_bipush (v := 12) hx hb dX12_test_141 (by decide) ?_
              refine lv_icmp_ne (tgt := 197) hx hb dX12_test_143 (by decide) (fun c_38 => ?_) (fun c_38 => ?_)
              · have hf := itF hf c_38
                refine lv_iconst (v := 0) hx hb dX12_test_197 (by decide) ?_
                refine lv_istore_n (lv' := [(2, .int (0 : Int32)), (4, .int r_29), (3, .int r_27), (0, .ref (bs + 1088)), (1, .int y1L_48)]) hx hb dX12_test_198 rfl hl (by decide) rfl (fun ls hl => ?_)
                refine lv_goto (tgt := 9) hx hb dX12_test_199 (by decide) ?_
                obtain rfl := Option.some.inj hf
                exact hB _ rfl H locs ls hP hS (lv_sub hl [3, 4, 0] rfl)
              · have hf := itT hf c_38
                refine lv_aload_n hx hb dX12_test_146 rfl (lv_at hl 2 rfl) ?_
                obtain ⟨r_40, hc_39, hf⟩ := bi1S hf
                refine wd_cv X hP hS L1088 ml_X12_218 ⟨_, _, rfl⟩ (c_X12_sign l D dA zz bs mm_34 r_40 hc_39) rfl ⟨Nat.le_of_ble_eq_true rfl, Nat.le_of_ble_eq_true rfl⟩ hl.1 rfl (rest := []) (Nat.le_of_ble_eq_true rfl) ⟨Nat.zero_le _, Nat.zero_le _⟩ dX12_test_147 (fun H locs hP hS => ?_)
                refine W.eq (g2 := F0 m 150 ls [.int r_40]) rfl ?_
                refine lv_bipush (v := 93) hx hb dX12_test_150 (by decide) ?_
                refine lv_icmp_eq (tgt := 164) hx hb dX12_test_152 (by decide) (fun c_41 => ?_) (fun c_41 => ?_)
                · have hf := itT hf c_41
                  exact hJ164 mm_34 y1L_48 y2L_48 H locs ls hf hP hS (lv_sub hl [2, 3, 4] rfl)
                · have hf := itF hf c_41
                  refine lv_aload_n hx hb dX12_test_155 rfl (lv_at hl 2 rfl) ?_
                  refine lv_iconst (v := 0) hx hb dX12_test_156 (by decide) ?_
                  refine lv_aload_n hx hb dX12_test_157 rfl (lv_at hl 2 rfl) ?_
                  refine wd_getI X hP L1088 fl_X12_215 rfl dX12_test_158 ?_
                  obtain ⟨mm_42, hc_43, hf⟩ := bi1S hf
                  refine wd_cv X hP hS L1088 ml_X12_251 ⟨_, _, rfl⟩ (c_X12_fails l D dA zz bs mm_34 (0 : Int32) (mm_34.1 1088 32) mm_42 hc_43) rfl ⟨Nat.le_of_ble_eq_true rfl, Nat.le_of_ble_eq_true rfl⟩ hl.1 rfl (rest := []) (Nat.le_of_ble_eq_true rfl) ⟨Nat.zero_le _, Nat.zero_le _⟩ dX12_test_161 (fun H locs hP hS => ?_)
                  refine W.eq (g2 := F0 m 164 ls []) rfl ?_
                  exact hJ164 mm_42 y1L_48 y2L_48 H locs ls hf hP hS (lv_sub hl [2, 3, 4] rfl)
            · have hf := itF hf c_33
              exact hJ82 mm_30 y2L_48 r_27 r_29 H locs ls hf hP hS (lv_sub hl [2, 4, 1, 0] rfl)
        · have hf := itF hf c_21
          refine lv_aload_n hx hb dX12_test_24 rfl (lv_at hl 0 rfl) ?_
          obtain ⟨r_46, mm_44, hc_45, hf⟩ := bi2S hf
          refine wd_cv X hP hS L1088 ml_X12_300 ⟨_, _, rfl⟩ (c_X12_fact l D dA zz bs mmL_48 r_46 mm_44 hc_45) rfl ⟨Nat.le_of_ble_eq_true rfl, Nat.le_of_ble_eq_true rfl⟩ hl.1 rfl (rest := []) (Nat.le_of_ble_eq_true rfl) ⟨Nat.zero_le _, Nat.zero_le _⟩ dX12_test_25 (fun H locs hP hS => ?_)
          refine W.eq (g2 := F0 m 28 ls [.int r_46]) rfl ?_
          refine lv_if_ne (tgt := 35) hx hb dX12_test_28 (by decide) (fun c_47 => ?_) (fun c_47 => ?_)
          · have hf := itF hf c_47
            refine lv_iconst (v := 0) hx hb dX12_test_35 (by decide) ?_
            exact hJ36 mm_44 y2L_48 (0 : Int32) H locs ls hf hP hS (lv_sub hl [0, 2] rfl)
          · have hf := itT hf c_47
            refine lv_iconst (v := 1) hx hb dX12_test_31 (by decide) ?_
            refine lv_goto (tgt := 36) hx hb dX12_test_32 (by decide) ?_
            exact hJ36 mm_44 y2L_48 (1 : Int32) H locs ls hf hP hS (lv_sub hl [0, 2] rfl)
  · obtain ⟨mm_49, e_mm_49⟩ : ∃ z, z = q_50 := ⟨_, rfl⟩
    subst e_mm_49
    intro H locs ls hP hS hl
    obtain rfl := Option.some.inj hf
    exact wd_vret X hP hS hr0 dX12_test_202 ⟨rfl, rfl⟩

noncomputable def f_X12_amount_j27 (mm : Mm) (y1 : Int32) (y2 : Int32) (y3 : Int32) (z0 : Int32) : Option (Int32 × Mm) :=
  if (mm.1 1088 33) = 0 then
    if (f_X12_in (z0.toInt64) (y1.toInt64) (y2.toInt64)) = 0 then
      bi1 (f_X12_fails mm (1 : Int32) y3) fun mm_3 => some (z0, mm_3)
    else
      some (z0, mm)
  else
    some (z0, mm)
noncomputable def f_X12_amount (mm : Mm) (x1 : Int32) (x2 : Int32) : Option (Int32 × Mm) :=
  bi1 (f_X12_blanks mm) fun mm_6 =>
    if (mm_6.1 1088 33) = 0 then
      bi2 (f_X12_digits mm_6 (99999 : Int32)) fun r_11 mm_9 => f_X12_amount_j27 mm_9 x1 x2 (mm_6.1 1088 32) r_11
    else
      f_X12_amount_j27 mm_6 x1 x2 (mm_6.1 1088 32) (0 : Int32)
set_option maxHeartbeats 4000000 in
set_option maxRecDepth 100000 in
theorem c_X12_amount (l : Launch) (D : va_G) (dA : Nat → ClassId) (zz : (Nat → Nat) × (Nat → Nat)) (bs : Nat) (mm : Mm) (x1 : Int32) (x2 : Int32) (out : Int32) (m1 : Mm) (hf : f_X12_amount mm x1 x2 = some (out, m1)) : Mw l D dA zz bs LY yX12_amount cX12_amount 5 (some .int) 3 68 [.ref (bs + 1088), .int x1, .int x2] mm (some (.int out)) m1 := by
  refine Mw.of (own := RX12) (by decide) rfl (Nat.le_of_ble_eq_true rfl) ?_
  intro p e s m args below meth c X hr0 hP hS ls hl
  have hx := X.1
  have hb := X.2.1
  obtain ⟨H, hH⟩ : ∃ z : Heap, z = s.heap := ⟨_, rfl⟩
  obtain ⟨locs, hL⟩ : ∃ z : List Loc, z = [] := ⟨_, rfl⟩
  rw [← hH, ← hL]
  have hS : va_S (Aq bs) s.heap H locs := by rw [hH, hL]; exact hS
  have hP : Wd D dA bs LY mm H := by rw [hH]; exact hP
  have hl : lv_has ls 5 [(0, .ref (bs + 1088)), (1, .int x1), (2, .int x2)] := hl
  have hJ27 : ∀ (mmJ_5 : Mm) (y1J_5 : Int32) (y2J_5 : Int32) (y3J_5 : Int32) (z0J_5 : Int32) (H : Heap) (locs : List Loc) (ls : Array Slot), f_X12_amount_j27 mmJ_5 y1J_5 y2J_5 y3J_5 z0J_5 = some (out, m1) → Wd D dA bs LY mmJ_5 H → va_S (Aq bs) s.heap H locs → lv_has ls 5 [(0, .ref (bs + 1088)), (1, .int y1J_5), (2, .int y2J_5), (3, .int y3J_5)] → Wz p l e s m args below meth c D dA bs (some (.int out)) m1 3 68 H locs 27 ls [.int z0J_5] := by
    intro mmJ_5 y1J_5 y2J_5 y3J_5 z0J_5 H locs ls hf hP hS hl
    unfold f_X12_amount_j27 at hf
    refine lv_istore (lv' := [(4, .int z0J_5), (0, .ref (bs + 1088)), (1, .int y1J_5), (2, .int y2J_5), (3, .int y3J_5)]) hx hb dX12_amount_27 hl (by decide) rfl (fun ls hl => ?_)
    refine lv_aload_n hx hb dX12_amount_29 rfl (lv_at hl 1 rfl) ?_
    refine wd_getI X hP L1088 fl_X12_212 rfl dX12_amount_30 ?_
    refine lv_if_ne (tgt := 55) hx hb dX12_amount_33 (by decide) (fun c_1 => ?_) (fun c_1 => ?_)
    · have hf := itF hf c_1
      refine lv_iload hx hb dX12_amount_55 (lv_at hl 0 rfl) ?_
      obtain ⟨rfl, rfl⟩ := Prod.mk.inj (Option.some.inj hf)
      exact wd_iret X hP hS hr0 dX12_amount_57 ⟨rfl, rfl⟩
    · have hf := itT hf c_1
      refine lv_iload hx hb dX12_amount_36 (lv_at hl 0 rfl) ?_
      refine lv_i2l hx hb dX12_amount_38 rfl ?_
      refine lv_iload_n hx hb dX12_amount_39 rfl (lv_at hl 2 rfl) ?_
      refine lv_i2l hx hb dX12_amount_40 rfl ?_
      refine lv_iload_n hx hb dX12_amount_41 rfl (lv_at hl 3 rfl) ?_
      refine lv_i2l hx hb dX12_amount_42 rfl ?_
      refine wd_cs X hP hS ml_X12_176 (c_X12_in l D dA zz bs mmJ_5 (z0J_5.toInt64) (y1J_5.toInt64) (y2J_5.toInt64) (f_X12_in (z0J_5.toInt64) (y1J_5.toInt64) (y2J_5.toInt64)) rfl) rfl ⟨Nat.le_of_ble_eq_true rfl, Nat.le_of_ble_eq_true rfl⟩ hl.1 rfl (rest := []) (Nat.le_of_ble_eq_true rfl) ⟨Nat.zero_le _, Nat.zero_le _⟩ dX12_amount_43 (fun H locs hP hS => ?_)
      refine W.eq (g2 := F0 m 46 ls [.int (f_X12_in (z0J_5.toInt64) (y1J_5.toInt64) (y2J_5.toInt64))]) rfl ?_
      refine lv_if_ne (tgt := 55) hx hb dX12_amount_46 (by decide) (fun c_2 => ?_) (fun c_2 => ?_)
      · have hf := itF hf c_2
        refine lv_iload hx hb dX12_amount_55 (lv_at hl 0 rfl) ?_
        obtain ⟨rfl, rfl⟩ := Prod.mk.inj (Option.some.inj hf)
        exact wd_iret X hP hS hr0 dX12_amount_57 ⟨rfl, rfl⟩
      · have hf := itT hf c_2
        refine lv_aload_n hx hb dX12_amount_49 rfl (lv_at hl 1 rfl) ?_
        refine lv_iconst (v := 1) hx hb dX12_amount_50 (by decide) ?_
        refine lv_iload_n hx hb dX12_amount_51 rfl (lv_at hl 4 rfl) ?_
        obtain ⟨mm_3, hc_4, hf⟩ := bi1S hf
        refine wd_cv X hP hS L1088 ml_X12_251 ⟨_, _, rfl⟩ (c_X12_fails l D dA zz bs mmJ_5 (1 : Int32) y3J_5 mm_3 hc_4) rfl ⟨Nat.le_of_ble_eq_true rfl, Nat.le_of_ble_eq_true rfl⟩ hl.1 rfl (rest := []) (Nat.le_of_ble_eq_true rfl) ⟨Nat.zero_le _, Nat.zero_le _⟩ dX12_amount_52 (fun H locs hP hS => ?_)
        refine W.eq (g2 := F0 m 55 ls []) rfl ?_
        refine lv_iload hx hb dX12_amount_55 (lv_at hl 0 rfl) ?_
        obtain ⟨rfl, rfl⟩ := Prod.mk.inj (Option.some.inj hf)
        exact wd_iret X hP hS hr0 dX12_amount_57 ⟨rfl, rfl⟩
  unfold f_X12_amount at hf
  refine lv_aload_n hx hb dX12_amount_0 rfl (lv_at hl 0 rfl) ?_
  obtain ⟨mm_6, hc_7, hf⟩ := bi1S hf
  refine wd_cv X hP hS L1088 ml_X12_235 ⟨_, _, rfl⟩ (c_X12_blanks l D dA zz bs mm mm_6 hc_7) rfl ⟨Nat.le_of_ble_eq_true rfl, Nat.le_of_ble_eq_true rfl⟩ hl.1 rfl (rest := []) (Nat.le_of_ble_eq_true rfl) ⟨Nat.zero_le _, Nat.zero_le _⟩ dX12_amount_1 (fun H locs hP hS => ?_)
  refine W.eq (g2 := F0 m 4 ls []) rfl ?_
  refine lv_aload_n hx hb dX12_amount_4 rfl (lv_at hl 0 rfl) ?_
  refine wd_getI X hP L1088 fl_X12_215 rfl dX12_amount_5 ?_
  refine lv_istore_n (lv' := [(3, .int (mm_6.1 1088 32)), (0, .ref (bs + 1088)), (1, .int x1), (2, .int x2)]) hx hb dX12_amount_8 rfl hl (by decide) rfl (fun ls hl => ?_)
  refine lv_aload_n hx hb dX12_amount_9 rfl (lv_at hl 1 rfl) ?_
  refine wd_getI X hP L1088 fl_X12_212 rfl dX12_amount_10 ?_
  refine lv_if_ne (tgt := 26) hx hb dX12_amount_13 (by decide) (fun c_8 => ?_) (fun c_8 => ?_)
  · have hf := itF hf c_8
    refine lv_iconst (v := 0) hx hb dX12_amount_26 (by decide) ?_
    exact hJ27 mm_6 x1 x2 (mm_6.1 1088 32) (0 : Int32) H locs ls hf hP hS (lv_sub hl [1, 2, 3, 0] rfl)
  · have hf := itT hf c_8
    refine lv_aload_n hx hb dX12_amount_16 rfl (lv_at hl 1 rfl) ?_
    refine lv_ldcw (own := RX12) (v := 99999) hx hb X.2.2.2.1 (X.2.2.2.2.1 _ (tb_at 1428 (by decide +kernel) (by decide +kernel))) dX12_amount_17 ?_
    obtain ⟨r_11, mm_9, hc_10, hf⟩ := bi2S hf
    refine wd_cv X hP hS L1088 ml_X12_260 ⟨_, _, rfl⟩ (c_X12_digits l D dA zz bs mm_6 (99999 : Int32) r_11 mm_9 hc_10) rfl ⟨Nat.le_of_ble_eq_true rfl, Nat.le_of_ble_eq_true rfl⟩ hl.1 rfl (rest := []) (Nat.le_of_ble_eq_true rfl) ⟨Nat.zero_le _, Nat.zero_le _⟩ dX12_amount_20 (fun H locs hP hS => ?_)
    refine W.eq (g2 := F0 m 23 ls [.int r_11]) rfl ?_
    refine lv_goto (tgt := 27) hx hb dX12_amount_23 (by decide) ?_
    exact hJ27 mm_9 x1 x2 (mm_6.1 1088 32) r_11 H locs ls hf hP hS (lv_sub hl [1, 2, 3, 0] rfl)

noncomputable def f_X12_riverWord (x0 : Int32) : Nat :=
  if x0 = 0 then
    7
  else if x0 = 1 then
    8
  else if x0 = 2 then
    9
  else if x0 = 3 then
    10
  else
    11
set_option maxHeartbeats 4000000 in
set_option maxRecDepth 100000 in
theorem c_X12_riverWord (l : Launch) (D : va_G) (dA : Nat → ClassId) (zz : (Nat → Nat) × (Nat → Nat)) (bs : Nat) (mm : Mm) (x0 : Int32) (out : Nat) (hf : f_X12_riverWord x0 = out) : Mw l D dA zz bs LY yX12_riverWord cX12_riverWord 1 (some (.object "java/lang/String")) 0 0 [.int x0] mm (some (.ref (zz.1 out))) mm := by
  refine Mw.of (own := RX12) (by decide) rfl (Nat.le_of_ble_eq_true rfl) ?_
  intro p e s m args below meth c X hr0 hP hS ls hl
  have hx := X.1
  have hb := X.2.1
  obtain ⟨H, hH⟩ : ∃ z : Heap, z = s.heap := ⟨_, rfl⟩
  obtain ⟨locs, hL⟩ : ∃ z : List Loc, z = [] := ⟨_, rfl⟩
  rw [← hH, ← hL]
  have hS : va_S (Aq bs) s.heap H locs := by rw [hH, hL]; exact hS
  have hP : Wd D dA bs LY mm H := by rw [hH]; exact hP
  have hl : lv_has ls 1 [(0, .int x0)] := hl
  unfold f_X12_riverWord at hf
  refine lv_iload_n hx hb dX12_riverWord_0 rfl (lv_at hl 0 rfl) ?_
  by_cases c_1 : x0 = 0
  · have hf := itT hf c_1
    refine lv_tableIn (tgt := 32) (off := 31) hx hb dX12_riverWord_1 (by rw [c_1]; decide) (by rw [c_1]; decide) (by rw [c_1]; decide) (by decide) ?_
    refine wd_ldcw (own := RX12) (q := zz.1 7) hx hb X.2.2.2.1 (X.2.2.2.2.2.2.1.2.1 ("PartyRaftModel", 310, "river", 7) (by decide)) dX12_riverWord_32 ?_
    subst hf
    exact wd_aret X hP hS hr0 dX12_riverWord_35 ⟨rfl, rfl⟩
  · have hf := itF hf c_1
    by_cases c_2 : x0 = 1
    · have hf := itT hf c_2
      refine lv_tableIn (tgt := 36) (off := 35) hx hb dX12_riverWord_1 (by rw [c_2]; decide) (by rw [c_2]; decide) (by rw [c_2]; decide) (by decide) ?_
      refine wd_ldcw (own := RX12) (q := zz.1 8) hx hb X.2.2.2.1 (X.2.2.2.2.2.2.1.2.1 ("PartyRaftModel", 312, "owner", 8) (by decide)) dX12_riverWord_36 ?_
      subst hf
      exact wd_aret X hP hS hr0 dX12_riverWord_39 ⟨rfl, rfl⟩
    · have hf := itF hf c_2
      by_cases c_3 : x0 = 2
      · have hf := itT hf c_3
        refine lv_tableIn (tgt := 40) (off := 39) hx hb dX12_riverWord_1 (by rw [c_3]; decide) (by rw [c_3]; decide) (by rw [c_3]; decide) (by decide) ?_
        refine wd_ldcw (own := RX12) (q := zz.1 9) hx hb X.2.2.2.1 (X.2.2.2.2.2.2.1.2.1 ("PartyRaftModel", 314, "thing", 9) (by decide)) dX12_riverWord_40 ?_
        subst hf
        exact wd_aret X hP hS hr0 dX12_riverWord_43 ⟨rfl, rfl⟩
      · have hf := itF hf c_3
        by_cases c_4 : x0 = 3
        · have hf := itT hf c_4
          refine lv_tableIn (tgt := 44) (off := 43) hx hb dX12_riverWord_1 (by rw [c_4]; decide) (by rw [c_4]; decide) (by rw [c_4]; decide) (by decide) ?_
          refine wd_ldcw (own := RX12) (q := zz.1 10) hx hb X.2.2.2.1 (X.2.2.2.2.2.2.1.2.1 ("PartyRaftModel", 316, "bound", 10) (by decide)) dX12_riverWord_44 ?_
          subst hf
          exact wd_aret X hP hS hr0 dX12_riverWord_47 ⟨rfl, rfl⟩
        · have hf := itF hf c_4
          refine lv_tableOut (tgt := 48) hx hb dX12_riverWord_1 (tb_out4 c_1 c_2 c_3 c_4) (by decide) ?_
          refine wd_ldcw (own := RX12) (q := zz.1 11) hx hb X.2.2.2.1 (X.2.2.2.2.2.2.1.2.1 ("PartyRaftModel", 318, "rapid", 11) (by decide)) dX12_riverWord_48 ?_
          subst hf
          exact wd_aret X hP hS hr0 dX12_riverWord_51 ⟨rfl, rfl⟩
theorem lt_X12_riverWord (x0 : Int32) : f_X12_riverWord x0 < 24 := by
  unfold f_X12_riverWord
  repeat (first | decide | split)

noncomputable def f_X12_isNewBound_j32 (mm : Mm) (y1 : Int32) (y2 : Int32) (y3 : Int32) : Option ((Int32) ⊕ ((Unit) ⊕ (Unit))) :=
  if y3 < 0 ∨ 12 ≤ y3.toNatClampNeg then none else
    if (mm.1 1114 y3.toNatClampNeg) = y2 then
      if y3 < 0 ∨ 12 ≤ y3.toNatClampNeg then none else
        if (mm.1 1115 y3.toNatClampNeg) = y1 then
          some (.inr (.inl ()))
        else
          some (.inl (y3 + 1))
    else
      some (.inl (y3 + 1))
noncomputable def f_X12_isNewBound_s2 (mm : Mm) (y1 : Int32) (y2 : Int32) : (Int32) → Option ((Int32) ⊕ ((Unit) ⊕ (Unit))) :=
  fun (y3 : Int32) =>
    if (mm.1 1107 4) ≤ y3 then
      some (.inr (.inr (())))
    else
      if y3 < 0 ∨ 12 ≤ y3.toNatClampNeg then none else
        if (mm.1 1114 y3.toNatClampNeg) = y1 then
          if y3 < 0 ∨ 12 ≤ y3.toNatClampNeg then none else
            if (mm.1 1115 y3.toNatClampNeg) = y2 then
              some (.inr (.inl ()))
            else
              f_X12_isNewBound_j32 mm y1 y2 y3
        else
          f_X12_isNewBound_j32 mm y1 y2 y3
noncomputable def f_X12_isNewBound (mm : Mm) (x1 : Int32) (x2 : Int32) : Option (Int32) :=
  bi1 (lp (f_X12_isNewBound_s2 mm x1 x2) (0 : Int32)) fun q => match q with
  | .inl () =>
    some (1 : Int32)
  | .inr (()) =>
    some (0 : Int32)
set_option maxHeartbeats 4000000 in
set_option maxRecDepth 100000 in
theorem c_X12_isNewBound (l : Launch) (D : va_G) (dA : Nat → ClassId) (zz : (Nat → Nat) × (Nat → Nat)) (bs : Nat) (mm : Mm) (x1 : Int32) (x2 : Int32) (out : Int32) (hf : f_X12_isNewBound mm x1 x2 = some out) : Mw l D dA zz bs LY yX12_isNewBound cX12_isNewBound 4 (some .boolean) 0 0 [.ref (bs + 1088), .int x1, .int x2] mm (some (.int out)) mm := by
  refine Mw.of (own := RX12) (by decide) rfl (Nat.le_of_ble_eq_true rfl) ?_
  intro p e s m args below meth c X hr0 hP hS ls hl
  have hx := X.1
  have hb := X.2.1
  obtain ⟨H, hH⟩ : ∃ z : Heap, z = s.heap := ⟨_, rfl⟩
  obtain ⟨locs, hL⟩ : ∃ z : List Loc, z = [] := ⟨_, rfl⟩
  rw [← hH, ← hL]
  have hS : va_S (Aq bs) s.heap H locs := by rw [hH, hL]; exact hS
  have hP : Wd D dA bs LY mm H := by rw [hH]; exact hP
  have hl : lv_has ls 4 [(0, .ref (bs + 1088)), (1, .int x1), (2, .int x2)] := hl
  unfold f_X12_isNewBound at hf
  refine lv_iconst (v := 0) hx hb dX12_isNewBound_0 (by decide) ?_
  refine lv_istore_n (lv' := [(3, .int (0 : Int32)), (0, .ref (bs + 1088)), (1, .int x1), (2, .int x2)]) hx hb dX12_isNewBound_1 rfl hl (by decide) rfl (fun ls hl => ?_)
  obtain ⟨q_12, hlp_13, hf⟩ := bi1S hf
  refine lp_walk (Wh := (fun y3L_11 => ∀ (H : Heap) (locs : List Loc) (ls : Array Slot), Wd D dA bs LY mm H → va_S (Aq bs) s.heap H locs → lv_has ls 4 [(0, .ref (bs + 1088)), (1, .int x1), (2, .int x2), (3, .int y3L_11)] → Wz p l e s m args below meth c D dA bs (some (.int out)) mm 0 0 H locs 2 ls [])) (Ph := (fun z => match z with | .inl () => ∀ (H : Heap) (locs : List Loc) (ls : Array Slot), Wd D dA bs LY mm H → va_S (Aq bs) s.heap H locs → lv_has ls 4 [] → Wz p l e s m args below meth c D dA bs (some (.int out)) mm 0 0 H locs 52 ls [] | .inr (()) => ∀ (H : Heap) (locs : List Loc) (ls : Array Slot), Wd D dA bs LY mm H → va_S (Aq bs) s.heap H locs → lv_has ls 4 [] → Wz p l e s m args below meth c D dA bs (some (.int out)) mm 0 0 H locs 60 ls [])) ?_ hlp_13 ?_ H locs ls hP hS (lv_sub hl [1, 2, 3, 0] rfl)
  · intro y3L_11 o hf hB hE
    intro H locs ls hP hS hl
    have hf : f_X12_isNewBound_s2 mm x1 x2 y3L_11 = some o := hf
    unfold f_X12_isNewBound_s2 at hf
    have hJ32 : ∀ (y3J_5 : Int32) (H : Heap) (locs : List Loc) (ls : Array Slot), f_X12_isNewBound_j32 mm x1 x2 y3J_5 = some o → Wd D dA bs LY mm H → va_S (Aq bs) s.heap H locs → lv_has ls 4 [(0, .ref (bs + 1088)), (1, .int x1), (2, .int x2), (3, .int y3J_5)] → Wz p l e s m args below meth c D dA bs (some (.int out)) mm 0 0 H locs 32 ls [] := by
      intro y3J_5 H locs ls hf hP hS hl
      unfold f_X12_isNewBound_j32 at hf
      refine lv_aload_n hx hb dX12_isNewBound_32 rfl (lv_at hl 0 rfl) ?_
      refine wd_getR (q := 1114) X hP L1088 fl_X12_85 rfl dX12_isNewBound_33 ?_
      refine lv_iload_n hx hb dX12_isNewBound_36 rfl (lv_at hl 3 rfl) ?_
      have g_1 := gdN hf
      have hf := gdK hf
      refine wd_iald X hP L1114 g_1 dX12_isNewBound_37 ?_
      refine lv_iload_n hx hb dX12_isNewBound_38 rfl (lv_at hl 2 rfl) ?_
      refine lv_icmp_ne (tgt := 54) hx hb dX12_isNewBound_39 (by decide) (fun c_2 => ?_) (fun c_2 => ?_)
      · have hf := itF hf c_2
        refine lv_iinc (v := (y3J_5 + 1)) (lv' := [(3, .int (y3J_5 + 1)), (0, .ref (bs + 1088)), (1, .int x1), (2, .int x2)]) hx hb dX12_isNewBound_54 hl (k := 3) rfl rfl (by decide) rfl (fun ls hl => ?_)
        refine lv_goto (tgt := 2) hx hb dX12_isNewBound_57 (by decide) ?_
        obtain rfl := Option.some.inj hf
        exact hB _ rfl H locs ls hP hS (lv_sub hl [1, 2, 3, 0] rfl)
      · have hf := itT hf c_2
        refine lv_aload_n hx hb dX12_isNewBound_42 rfl (lv_at hl 0 rfl) ?_
        refine wd_getR (q := 1115) X hP L1088 fl_X12_88 rfl dX12_isNewBound_43 ?_
        refine lv_iload_n hx hb dX12_isNewBound_46 rfl (lv_at hl 3 rfl) ?_
        have g_3 := gdN hf
        have hf := gdK hf
        refine wd_iald X hP L1115 g_3 dX12_isNewBound_47 ?_
        refine lv_iload_n hx hb dX12_isNewBound_48 rfl (lv_at hl 1 rfl) ?_
        refine lv_icmp_ne (tgt := 54) hx hb dX12_isNewBound_49 (by decide) (fun c_4 => ?_) (fun c_4 => ?_)
        · have hf := itF hf c_4
          refine lv_iinc (v := (y3J_5 + 1)) (lv' := [(3, .int (y3J_5 + 1)), (0, .ref (bs + 1088)), (1, .int x1), (2, .int x2)]) hx hb dX12_isNewBound_54 hl (k := 3) rfl rfl (by decide) rfl (fun ls hl => ?_)
          refine lv_goto (tgt := 2) hx hb dX12_isNewBound_57 (by decide) ?_
          obtain rfl := Option.some.inj hf
          exact hB _ rfl H locs ls hP hS (lv_sub hl [1, 2, 3, 0] rfl)
        · have hf := itT hf c_4
          obtain rfl := Option.some.inj hf
          exact hE _ rfl H locs ls hP hS (lv_sub hl [] rfl)
    refine lv_iload_n hx hb dX12_isNewBound_2 rfl (lv_at hl 3 rfl) ?_
    refine lv_aload_n hx hb dX12_isNewBound_3 rfl (lv_at hl 0 rfl) ?_
    refine wd_getR (q := 1107) X hP L1088 fl_X12_64 rfl dX12_isNewBound_4 ?_
    refine lv_iconst (v := 4) hx hb dX12_isNewBound_7 (by decide) ?_
    refine wd_ialdK (k := 4) X hP L1107 (by decide) (by decide) dX12_isNewBound_8 ?_
    refine lv_icmp_ge (tgt := 60) hx hb dX12_isNewBound_9 (by decide) (fun c_6 => ?_) (fun c_6 => ?_)
    · have hf := itT hf c_6
      obtain rfl := Option.some.inj hf
      exact hE _ rfl H locs ls hP hS (lv_sub hl [] rfl)
    · have hf := itF hf c_6
      refine lv_aload_n hx hb dX12_isNewBound_12 rfl (lv_at hl 0 rfl) ?_
      refine wd_getR (q := 1114) X hP L1088 fl_X12_85 rfl dX12_isNewBound_13 ?_
      refine lv_iload_n hx hb dX12_isNewBound_16 rfl (lv_at hl 3 rfl) ?_
      have g_7 := gdN hf
      have hf := gdK hf
      refine wd_iald X hP L1114 g_7 dX12_isNewBound_17 ?_
      refine lv_iload_n hx hb dX12_isNewBound_18 rfl (lv_at hl 1 rfl) ?_
      refine lv_icmp_ne (tgt := 32) hx hb dX12_isNewBound_19 (by decide) (fun c_8 => ?_) (fun c_8 => ?_)
      · have hf := itF hf c_8
        exact hJ32 y3L_11 H locs ls hf hP hS (lv_sub hl [0, 1, 2, 3] rfl)
      · have hf := itT hf c_8
        refine lv_aload_n hx hb dX12_isNewBound_22 rfl (lv_at hl 0 rfl) ?_
        refine wd_getR (q := 1115) X hP L1088 fl_X12_88 rfl dX12_isNewBound_23 ?_
        refine lv_iload_n hx hb dX12_isNewBound_26 rfl (lv_at hl 3 rfl) ?_
        have g_9 := gdN hf
        have hf := gdK hf
        refine wd_iald X hP L1115 g_9 dX12_isNewBound_27 ?_
        refine lv_iload_n hx hb dX12_isNewBound_28 rfl (lv_at hl 2 rfl) ?_
        refine lv_icmp_eq (tgt := 52) hx hb dX12_isNewBound_29 (by decide) (fun c_10 => ?_) (fun c_10 => ?_)
        · have hf := itT hf c_10
          obtain rfl := Option.some.inj hf
          exact hE _ rfl H locs ls hP hS (lv_sub hl [] rfl)
        · have hf := itF hf c_10
          exact hJ32 y3L_11 H locs ls hf hP hS (lv_sub hl [0, 1, 2, 3] rfl)
  · rcases q_12 with ⟨⟩ | ⟨⟩
    · dsimp only at hf
      intro H locs ls hP hS hl
      refine lv_iconst (v := 1) hx hb dX12_isNewBound_52 (by decide) ?_
      obtain rfl := Option.some.inj hf
      exact wd_zret X hP hS hr0 (by decide) dX12_isNewBound_53 ⟨rfl, rfl⟩
    · dsimp only at hf
      intro H locs ls hP hS hl
      refine lv_iconst (v := 0) hx hb dX12_isNewBound_60 (by decide) ?_
      obtain rfl := Option.some.inj hf
      exact wd_zret X hP hS hr0 (by decide) dX12_isNewBound_61 ⟨rfl, rfl⟩

noncomputable def f_X12_readsBound_j109 (mm : Mm) (y1 : Int32) (z0 : Int32) (z1 : Int32) : Option (Mm) :=
  if z1 < 0 ∨ 12 ≤ z1.toNatClampNeg then none else
    vlet (wI mm 1115 z1.toNatClampNeg z0) fun mm_1 =>
      bi2 (f_X12_amount mm_1 (1 : Int32) (9 : Int32)) fun r_5 mm_3 =>
        if y1 < 0 ∨ 12 ≤ y1.toNatClampNeg then none else
          vlet (wI mm_3 1116 y1.toNatClampNeg r_5) fun mm_6 =>
            vlet (wI mm_6 1107 4 ((mm_6.1 1107 4) + (1 : Int32))) fun mm_8 => some mm_8
noncomputable def f_X12_readsBound_j91 (mm : Mm) (y1 : Int32) (y2 : Int32) (y4 : Int32) (z0 : Int32) (z1 : Int32) : Option (Mm) :=
  if z1 < 0 ∨ 12 ≤ z1.toNatClampNeg then none else
    vlet (wI mm 1114 z1.toNatClampNeg z0) fun mm_10 =>
      if y4 ≤ y2 then
        f_X12_readsBound_j109 mm_10 y1 y2 y1
      else
        f_X12_readsBound_j109 mm_10 y1 y4 y1
noncomputable def f_X12_readsBound_j74 (mm : Mm) (y1 : Int32) (y2 : Int32) (y4 : Int32) : Option (Mm) :=
  if y4 ≤ y2 then
    f_X12_readsBound_j91 mm y1 y2 y4 y4 y1
  else
    f_X12_readsBound_j91 mm y1 y2 y4 y2 y1
noncomputable def f_X12_readsBound_j68 (mm : Mm) (y1 : Int32) (y2 : Int32) (y3 : Int32) (y4 : Int32) : Option (Mm) :=
  bi1 (f_X12_fails mm (1 : Int32) y3) fun mm_16 => f_X12_readsBound_j74 mm_16 y1 y2 y4
noncomputable def f_X12_readsBound (mm : Mm) : Option (Mm) :=
  bi2 (f_X12_amount mm (0 : Int32) ((mm.1 1107 3) - (1 : Int32))) fun r_21 mm_19 =>
    bi1 (f_X12_blanks mm_19) fun mm_22 =>
      bi2 (f_X12_amount mm_22 (0 : Int32) ((mm_22.1 1107 3) - (1 : Int32))) fun r_26 mm_24 =>
        if (mm_24.1 1088 33) = 0 then
          if r_21 = r_26 then
            f_X12_readsBound_j68 mm_24 (mm.1 1107 4) r_21 (mm_22.1 1088 32) r_26
          else
            bi1 (f_X12_isNewBound mm_24 r_21 r_26) fun r_30 =>
              if r_30 = 0 then
                f_X12_readsBound_j74 mm_24 (mm.1 1107 4) r_21 r_26
              else
                f_X12_readsBound_j68 mm_24 (mm.1 1107 4) r_21 (mm_22.1 1088 32) r_26
        else
          f_X12_readsBound_j74 mm_24 (mm.1 1107 4) r_21 r_26
set_option maxHeartbeats 4000000 in
set_option maxRecDepth 100000 in
theorem c_X12_readsBound (l : Launch) (D : va_G) (dA : Nat → ClassId) (zz : (Nat → Nat) × (Nat → Nat)) (bs : Nat) (mm : Mm) (m1 : Mm) (hf : f_X12_readsBound mm = some m1) : Mw l D dA zz bs LY yX12_readsBound cX12_readsBound 5 none 4 92 [.ref (bs + 1088)] mm none m1 := by
  refine Mw.of (own := RX12) (by decide) rfl (Nat.le_of_ble_eq_true rfl) ?_
  intro p e s m args below meth c X hr0 hP hS ls hl
  have hx := X.1
  have hb := X.2.1
  obtain ⟨H, hH⟩ : ∃ z : Heap, z = s.heap := ⟨_, rfl⟩
  obtain ⟨locs, hL⟩ : ∃ z : List Loc, z = [] := ⟨_, rfl⟩
  rw [← hH, ← hL]
  have hS : va_S (Aq bs) s.heap H locs := by rw [hH, hL]; exact hS
  have hP : Wd D dA bs LY mm H := by rw [hH]; exact hP
  have hl : lv_has ls 5 [(0, .ref (bs + 1088))] := hl
  have hJ109 : ∀ (mmJ_9 : Mm) (y1J_9 : Int32) (z0J_9 : Int32) (z1J_9 : Int32) (H : Heap) (locs : List Loc) (ls : Array Slot), f_X12_readsBound_j109 mmJ_9 y1J_9 z0J_9 z1J_9 = some m1 → Wd D dA bs LY mmJ_9 H → va_S (Aq bs) s.heap H locs → lv_has ls 5 [(0, .ref (bs + 1088)), (1, .int y1J_9)] → Wz p l e s m args below meth c D dA bs none m1 4 92 H locs 109 ls [.int z0J_9, .int z1J_9, .ref (bs + 1115)] := by
    intro mmJ_9 y1J_9 z0J_9 z1J_9 H locs ls hf hP hS hl
    unfold f_X12_readsBound_j109 at hf
    have g_2 := gdN hf
    have hf := gdK hf
    refine wd_iast X hP hS L1115 g_2 dX12_readsBound_109 (fun H locs mm_1 emm_1 hP hS => ?_)
    have hf := vl hf emm_1
    refine lv_aload_n hx hb dX12_readsBound_110 rfl (lv_at hl 0 rfl) ?_
    refine wd_getR (q := 1116) X hP L1088 fl_X12_91 rfl dX12_readsBound_111 ?_
    refine lv_iload_n hx hb dX12_readsBound_114 rfl (lv_at hl 1 rfl) ?_
    refine lv_aload_n hx hb dX12_readsBound_115 rfl (lv_at hl 0 rfl) ?_
    refine lv_iconst (v := 1) hx hb dX12_readsBound_116 (by decide) ?_
    refine lv_bipush (v := 9) hx hb dX12_readsBound_117 (by decide) ?_
    obtain ⟨r_5, mm_3, hc_4, hf⟩ := bi2S hf
    refine wd_cv X hP hS L1088 ml_X12_320 ⟨_, _, rfl⟩ (c_X12_amount l D dA zz bs mm_1 (1 : Int32) (9 : Int32) r_5 mm_3 hc_4) rfl ⟨Nat.le_of_ble_eq_true rfl, Nat.le_of_ble_eq_true rfl⟩ hl.1 rfl (rest := [.int y1J_9, .ref (bs + 1116)]) (Nat.le_of_ble_eq_true rfl) ⟨Nat.zero_le _, Nat.zero_le _⟩ dX12_readsBound_119 (fun H locs hP hS => ?_)
    refine W.eq (g2 := F0 m 122 ls [.int r_5, .int y1J_9, .ref (bs + 1116)]) rfl ?_
    have g_7 := gdN hf
    have hf := gdK hf
    refine wd_iast X hP hS L1116 g_7 dX12_readsBound_122 (fun H locs mm_6 emm_6 hP hS => ?_)
    have hf := vl hf emm_6
    refine lv_aload_n hx hb dX12_readsBound_123 rfl (lv_at hl 0 rfl) ?_
    refine wd_getR (q := 1107) X hP L1088 fl_X12_64 rfl dX12_readsBound_124 ?_
    refine lv_iconst (v := 4) hx hb dX12_readsBound_127 (by decide) ?_
    refine lv_dup2_11 hx hb dX12_readsBound_128 rfl rfl ?_
    refine wd_ialdK (k := 4) X hP L1107 (by decide) (by decide) dX12_readsBound_129 ?_
    refine lv_iconst (v := 1) hx hb dX12_readsBound_130 (by decide) ?_
    refine lv_iadd hx hb dX12_readsBound_131 ?_
    refine wd_iastK (k := 4) X hP hS L1107 (by decide) (by decide) dX12_readsBound_132 (fun H locs mm_8 emm_8 hP hS => ?_)
    have hf := vl hf emm_8
    obtain rfl := Option.some.inj hf
    exact wd_vret X hP hS hr0 dX12_readsBound_133 ⟨rfl, rfl⟩
  have hJ91 : ∀ (mmJ_13 : Mm) (y1J_13 : Int32) (y2J_13 : Int32) (y4J_13 : Int32) (z0J_13 : Int32) (z1J_13 : Int32) (H : Heap) (locs : List Loc) (ls : Array Slot), f_X12_readsBound_j91 mmJ_13 y1J_13 y2J_13 y4J_13 z0J_13 z1J_13 = some m1 → Wd D dA bs LY mmJ_13 H → va_S (Aq bs) s.heap H locs → lv_has ls 5 [(0, .ref (bs + 1088)), (1, .int y1J_13), (2, .int y2J_13), (4, .int y4J_13)] → Wz p l e s m args below meth c D dA bs none m1 4 92 H locs 91 ls [.int z0J_13, .int z1J_13, .ref (bs + 1114)] := by
    intro mmJ_13 y1J_13 y2J_13 y4J_13 z0J_13 z1J_13 H locs ls hf hP hS hl
    unfold f_X12_readsBound_j91 at hf
    have g_11 := gdN hf
    have hf := gdK hf
    refine wd_iast X hP hS L1114 g_11 dX12_readsBound_91 (fun H locs mm_10 emm_10 hP hS => ?_)
    have hf := vl hf emm_10
    refine lv_aload_n hx hb dX12_readsBound_92 rfl (lv_at hl 0 rfl) ?_
    refine wd_getR (q := 1115) X hP L1088 fl_X12_88 rfl dX12_readsBound_93 ?_
    refine lv_iload_n hx hb dX12_readsBound_96 rfl (lv_at hl 1 rfl) ?_
    refine lv_iload_n hx hb dX12_readsBound_97 rfl (lv_at hl 2 rfl) ?_
    refine lv_iload hx hb dX12_readsBound_98 (lv_at hl 3 rfl) ?_
    refine lv_icmp_ge (tgt := 108) hx hb dX12_readsBound_100 (by decide) (fun c_12 => ?_) (fun c_12 => ?_)
    · have hf := itT hf c_12
      refine lv_iload_n hx hb dX12_readsBound_108 rfl (lv_at hl 2 rfl) ?_
      exact hJ109 mm_10 y1J_13 y2J_13 y1J_13 H locs ls hf hP hS (lv_sub hl [0, 1] rfl)
    · have hf := itF hf c_12
      refine lv_iload hx hb dX12_readsBound_103 (lv_at hl 3 rfl) ?_
      refine lv_goto (tgt := 109) hx hb dX12_readsBound_105 (by decide) ?_
      exact hJ109 mm_10 y1J_13 y4J_13 y1J_13 H locs ls hf hP hS (lv_sub hl [0, 1] rfl)
  have hJ74 : ∀ (mmJ_15 : Mm) (y1J_15 : Int32) (y2J_15 : Int32) (y4J_15 : Int32) (H : Heap) (locs : List Loc) (ls : Array Slot), f_X12_readsBound_j74 mmJ_15 y1J_15 y2J_15 y4J_15 = some m1 → Wd D dA bs LY mmJ_15 H → va_S (Aq bs) s.heap H locs → lv_has ls 5 [(0, .ref (bs + 1088)), (1, .int y1J_15), (2, .int y2J_15), (4, .int y4J_15)] → Wz p l e s m args below meth c D dA bs none m1 4 92 H locs 74 ls [] := by
    intro mmJ_15 y1J_15 y2J_15 y4J_15 H locs ls hf hP hS hl
    unfold f_X12_readsBound_j74 at hf
    refine lv_aload_n hx hb dX12_readsBound_74 rfl (lv_at hl 0 rfl) ?_
    refine wd_getR (q := 1114) X hP L1088 fl_X12_85 rfl dX12_readsBound_75 ?_
    refine lv_iload_n hx hb dX12_readsBound_78 rfl (lv_at hl 1 rfl) ?_
    refine lv_iload_n hx hb dX12_readsBound_79 rfl (lv_at hl 2 rfl) ?_
    refine lv_iload hx hb dX12_readsBound_80 (lv_at hl 3 rfl) ?_
    refine lv_icmp_ge (tgt := 89) hx hb dX12_readsBound_82 (by decide) (fun c_14 => ?_) (fun c_14 => ?_)
    · have hf := itT hf c_14
      refine lv_iload hx hb dX12_readsBound_89 (lv_at hl 3 rfl) ?_
      exact hJ91 mmJ_15 y1J_15 y2J_15 y4J_15 y4J_15 y1J_15 H locs ls hf hP hS (lv_sub hl [0, 1, 2, 3] rfl)
    · have hf := itF hf c_14
      refine lv_iload_n hx hb dX12_readsBound_85 rfl (lv_at hl 2 rfl) ?_
      refine lv_goto (tgt := 91) hx hb dX12_readsBound_86 (by decide) ?_
      exact hJ91 mmJ_15 y1J_15 y2J_15 y4J_15 y2J_15 y1J_15 H locs ls hf hP hS (lv_sub hl [0, 1, 2, 3] rfl)
  have hJ68 : ∀ (mmJ_18 : Mm) (y1J_18 : Int32) (y2J_18 : Int32) (y3J_18 : Int32) (y4J_18 : Int32) (H : Heap) (locs : List Loc) (ls : Array Slot), f_X12_readsBound_j68 mmJ_18 y1J_18 y2J_18 y3J_18 y4J_18 = some m1 → Wd D dA bs LY mmJ_18 H → va_S (Aq bs) s.heap H locs → lv_has ls 5 [(0, .ref (bs + 1088)), (1, .int y1J_18), (2, .int y2J_18), (3, .int y3J_18), (4, .int y4J_18)] → Wz p l e s m args below meth c D dA bs none m1 4 92 H locs 68 ls [] := by
    intro mmJ_18 y1J_18 y2J_18 y3J_18 y4J_18 H locs ls hf hP hS hl
    unfold f_X12_readsBound_j68 at hf
    refine lv_aload_n hx hb dX12_readsBound_68 rfl (lv_at hl 0 rfl) ?_
    refine lv_iconst (v := 1) hx hb dX12_readsBound_69 (by decide) ?_
    refine lv_iload_n hx hb dX12_readsBound_70 rfl (lv_at hl 3 rfl) ?_
    obtain ⟨mm_16, hc_17, hf⟩ := bi1S hf
    refine wd_cv X hP hS L1088 ml_X12_251 ⟨_, _, rfl⟩ (c_X12_fails l D dA zz bs mmJ_18 (1 : Int32) y3J_18 mm_16 hc_17) rfl ⟨Nat.le_of_ble_eq_true rfl, Nat.le_of_ble_eq_true rfl⟩ hl.1 rfl (rest := []) (Nat.le_of_ble_eq_true rfl) ⟨Nat.zero_le _, Nat.zero_le _⟩ dX12_readsBound_71 (fun H locs hP hS => ?_)
    refine W.eq (g2 := F0 m 74 ls []) rfl ?_
    exact hJ74 mm_16 y1J_18 y2J_18 y4J_18 H locs ls hf hP hS (lv_sub hl [0, 1, 2, 4] rfl)
  unfold f_X12_readsBound at hf
  refine lv_aload_n hx hb dX12_readsBound_0 rfl (lv_at hl 0 rfl) ?_
  refine wd_getR (q := 1107) X hP L1088 fl_X12_64 rfl dX12_readsBound_1 ?_
  refine lv_iconst (v := 4) hx hb dX12_readsBound_4 (by decide) ?_
  refine wd_ialdK (k := 4) X hP L1107 (by decide) (by decide) dX12_readsBound_5 ?_
  refine lv_istore_n (lv' := [(1, .int (mm.1 1107 4)), (0, .ref (bs + 1088))]) hx hb dX12_readsBound_6 rfl hl (by decide) rfl (fun ls hl => ?_)
  refine lv_aload_n hx hb dX12_readsBound_7 rfl (lv_at hl 1 rfl) ?_
  refine lv_iconst (v := 0) hx hb dX12_readsBound_8 (by decide) ?_
  refine lv_aload_n hx hb dX12_readsBound_9 rfl (lv_at hl 1 rfl) ?_
  refine wd_getR (q := 1107) X hP L1088 fl_X12_64 rfl dX12_readsBound_10 ?_
  refine lv_iconst (v := 3) hx hb dX12_readsBound_13 (by decide) ?_
  refine wd_ialdK (k := 3) X hP L1107 (by decide) (by decide) dX12_readsBound_14 ?_
  refine lv_iconst (v := 1) hx hb dX12_readsBound_15 (by decide) ?_
  refine lv_isub hx hb dX12_readsBound_16 ?_
  obtain ⟨r_21, mm_19, hc_20, hf⟩ := bi2S hf
  refine wd_cv X hP hS L1088 ml_X12_320 ⟨_, _, rfl⟩ (c_X12_amount l D dA zz bs mm (0 : Int32) ((mm.1 1107 3) - (1 : Int32)) r_21 mm_19 hc_20) rfl ⟨Nat.le_of_ble_eq_true rfl, Nat.le_of_ble_eq_true rfl⟩ hl.1 rfl (rest := []) (Nat.le_of_ble_eq_true rfl) ⟨Nat.zero_le _, Nat.zero_le _⟩ dX12_readsBound_17 (fun H locs hP hS => ?_)
  refine W.eq (g2 := F0 m 20 ls [.int r_21]) rfl ?_
  refine lv_istore_n (lv' := [(2, .int r_21), (1, .int (mm.1 1107 4)), (0, .ref (bs + 1088))]) hx hb dX12_readsBound_20 rfl hl (by decide) rfl (fun ls hl => ?_)
  refine lv_aload_n hx hb dX12_readsBound_21 rfl (lv_at hl 2 rfl) ?_
  obtain ⟨mm_22, hc_23, hf⟩ := bi1S hf
  refine wd_cv X hP hS L1088 ml_X12_235 ⟨_, _, rfl⟩ (c_X12_blanks l D dA zz bs mm_19 mm_22 hc_23) rfl ⟨Nat.le_of_ble_eq_true rfl, Nat.le_of_ble_eq_true rfl⟩ hl.1 rfl (rest := []) (Nat.le_of_ble_eq_true rfl) ⟨Nat.zero_le _, Nat.zero_le _⟩ dX12_readsBound_22 (fun H locs hP hS => ?_)
  refine W.eq (g2 := F0 m 25 ls []) rfl ?_
  refine lv_aload_n hx hb dX12_readsBound_25 rfl (lv_at hl 2 rfl) ?_
  refine wd_getI X hP L1088 fl_X12_215 rfl dX12_readsBound_26 ?_
  refine lv_istore_n (lv' := [(3, .int (mm_22.1 1088 32)), (2, .int r_21), (1, .int (mm.1 1107 4)), (0, .ref (bs + 1088))]) hx hb dX12_readsBound_29 rfl hl (by decide) rfl (fun ls hl => ?_)
  refine lv_aload_n hx hb dX12_readsBound_30 rfl (lv_at hl 3 rfl) ?_
  refine lv_iconst (v := 0) hx hb dX12_readsBound_31 (by decide) ?_
  refine lv_aload_n hx hb dX12_readsBound_32 rfl (lv_at hl 3 rfl) ?_
  refine wd_getR (q := 1107) X hP L1088 fl_X12_64 rfl dX12_readsBound_33 ?_
  refine lv_iconst (v := 3) hx hb dX12_readsBound_36 (by decide) ?_
  refine wd_ialdK (k := 3) X hP L1107 (by decide) (by decide) dX12_readsBound_37 ?_
  refine lv_iconst (v := 1) hx hb dX12_readsBound_38 (by decide) ?_
  refine lv_isub hx hb dX12_readsBound_39 ?_
  obtain ⟨r_26, mm_24, hc_25, hf⟩ := bi2S hf
  refine wd_cv X hP hS L1088 ml_X12_320 ⟨_, _, rfl⟩ (c_X12_amount l D dA zz bs mm_22 (0 : Int32) ((mm_22.1 1107 3) - (1 : Int32)) r_26 mm_24 hc_25) rfl ⟨Nat.le_of_ble_eq_true rfl, Nat.le_of_ble_eq_true rfl⟩ hl.1 rfl (rest := []) (Nat.le_of_ble_eq_true rfl) ⟨Nat.zero_le _, Nat.zero_le _⟩ dX12_readsBound_40 (fun H locs hP hS => ?_)
  refine W.eq (g2 := F0 m 43 ls [.int r_26]) rfl ?_
  refine lv_istore (lv' := [(4, .int r_26), (3, .int (mm_22.1 1088 32)), (2, .int r_21), (1, .int (mm.1 1107 4)), (0, .ref (bs + 1088))]) hx hb dX12_readsBound_43 hl (by decide) rfl (fun ls hl => ?_)
  refine lv_aload_n hx hb dX12_readsBound_45 rfl (lv_at hl 4 rfl) ?_
  refine wd_getI X hP L1088 fl_X12_212 rfl dX12_readsBound_46 ?_
  refine lv_if_ne (tgt := 74) hx hb dX12_readsBound_49 (by decide) (fun c_27 => ?_) (fun c_27 => ?_)
  · have hf := itF hf c_27
    exact hJ74 mm_24 (mm.1 1107 4) r_21 r_26 H locs ls hf hP hS (lv_sub hl [4, 3, 2, 0] rfl)
  · have hf := itT hf c_27
    refine lv_iload_n hx hb dX12_readsBound_52 rfl (lv_at hl 2 rfl) ?_
    refine lv_iload hx hb dX12_readsBound_53 (lv_at hl 0 rfl) ?_
    refine lv_icmp_eq (tgt := 68) hx hb dX12_readsBound_55 (by decide) (fun c_28 => ?_) (fun c_28 => ?_)
    · have hf := itT hf c_28
      exact hJ68 mm_24 (mm.1 1107 4) r_21 (mm_22.1 1088 32) r_26 H locs ls hf hP hS (lv_sub hl [4, 3, 2, 1, 0] rfl)
    · have hf := itF hf c_28
      refine lv_aload_n hx hb dX12_readsBound_58 rfl (lv_at hl 4 rfl) ?_
      refine lv_iload_n hx hb dX12_readsBound_59 rfl (lv_at hl 2 rfl) ?_
      refine lv_iload hx hb dX12_readsBound_60 (lv_at hl 0 rfl) ?_
      obtain ⟨r_30, hc_29, hf⟩ := bi1S hf
      refine wd_cv X hP hS L1088 ml_X12_324 ⟨_, _, rfl⟩ (c_X12_isNewBound l D dA zz bs mm_24 r_21 r_26 r_30 hc_29) rfl ⟨Nat.le_of_ble_eq_true rfl, Nat.le_of_ble_eq_true rfl⟩ hl.1 rfl (rest := []) (Nat.le_of_ble_eq_true rfl) ⟨Nat.zero_le _, Nat.zero_le _⟩ dX12_readsBound_62 (fun H locs hP hS => ?_)
      refine W.eq (g2 := F0 m 65 ls [.int r_30]) rfl ?_
      refine lv_if_eq (tgt := 74) hx hb dX12_readsBound_65 (by decide) (fun c_31 => ?_) (fun c_31 => ?_)
      · have hf := itT hf c_31
        exact hJ74 mm_24 (mm.1 1107 4) r_21 r_26 H locs ls hf hP hS (lv_sub hl [4, 3, 2, 0] rfl)
      · have hf := itF hf c_31
        exact hJ68 mm_24 (mm.1 1107 4) r_21 (mm_22.1 1088 32) r_26 H locs ls hf hP hS (lv_sub hl [4, 3, 2, 1, 0] rfl)

noncomputable def f_X12_readsRapid_s31 (y1 : Int32) (y2 : Int32) (y3 : Int32) : (Int32 × Mm) → Option ((Int32 × Mm) ⊕ (Mm)) :=
  fun q => match q with
  | (y4, mm) =>
    if y1 ≤ y4 then
      some (.inr mm)
    else
      if y4 < 0 ∨ 6 ≤ y4.toNatClampNeg then none else
        if (mm.1 1117 y4.toNatClampNeg) = y3 then
          if (mm.1 1088 33) = 0 then
            bi1 (f_X12_fails mm (1 : Int32) y2) fun mm_10 => some (.inl ((y4 + 1), mm_10))
          else
            some (.inl ((y4 + 1), mm))
        else
          some (.inl ((y4 + 1), mm))
noncomputable def f_X12_readsRapid (mm : Mm) : Option (Mm) :=
  bi1 (f_X12_blanks mm) fun mm_1 =>
    bi2 (f_X12_amount mm_1 (1 : Int32) (mm_1.1 1107 0)) fun r_5 mm_3 =>
      bi1 (lp (f_X12_readsRapid_s31 (mm.1 1107 5) (mm_1.1 1088 32) r_5) ((0 : Int32), mm_3)) fun mm_13 =>
        if (mm.1 1107 5) < 0 ∨ 6 ≤ (mm.1 1107 5).toNatClampNeg then none else
          vlet (wI mm_13 1117 (mm.1 1107 5).toNatClampNeg r_5) fun mm_14 =>
            bi2 (f_X12_amount mm_14 (1 : Int32) (9 : Int32)) fun r_18 mm_16 =>
              if (mm.1 1107 5) < 0 ∨ 6 ≤ (mm.1 1107 5).toNatClampNeg then none else
                vlet (wI mm_16 1118 (mm.1 1107 5).toNatClampNeg r_18) fun mm_19 =>
                  vlet (wI mm_19 1107 5 ((mm_19.1 1107 5) + (1 : Int32))) fun mm_21 => some mm_21
set_option maxHeartbeats 4000000 in
set_option maxRecDepth 100000 in
theorem c_X12_readsRapid (l : Launch) (D : va_G) (dA : Nat → ClassId) (zz : (Nat → Nat) × (Nat → Nat)) (bs : Nat) (mm : Mm) (m1 : Mm) (hf : f_X12_readsRapid mm = some m1) : Mw l D dA zz bs LY yX12_readsRapid cX12_readsRapid 5 none 4 92 [.ref (bs + 1088)] mm none m1 := by
  refine Mw.of (own := RX12) (by decide) rfl (Nat.le_of_ble_eq_true rfl) ?_
  intro p e s m args below meth c X hr0 hP hS ls hl
  have hx := X.1
  have hb := X.2.1
  obtain ⟨H, hH⟩ : ∃ z : Heap, z = s.heap := ⟨_, rfl⟩
  obtain ⟨locs, hL⟩ : ∃ z : List Loc, z = [] := ⟨_, rfl⟩
  rw [← hH, ← hL]
  have hS : va_S (Aq bs) s.heap H locs := by rw [hH, hL]; exact hS
  have hP : Wd D dA bs LY mm H := by rw [hH]; exact hP
  have hl : lv_has ls 5 [(0, .ref (bs + 1088))] := hl
  unfold f_X12_readsRapid at hf
  refine lv_aload_n hx hb dX12_readsRapid_0 rfl (lv_at hl 0 rfl) ?_
  refine wd_getR (q := 1107) X hP L1088 fl_X12_64 rfl dX12_readsRapid_1 ?_
  refine lv_iconst (v := 5) hx hb dX12_readsRapid_4 (by decide) ?_
  refine wd_ialdK (k := 5) X hP L1107 (by decide) (by decide) dX12_readsRapid_5 ?_
  refine lv_istore_n (lv' := [(1, .int (mm.1 1107 5)), (0, .ref (bs + 1088))]) hx hb dX12_readsRapid_6 rfl hl (by decide) rfl (fun ls hl => ?_)
  refine lv_aload_n hx hb dX12_readsRapid_7 rfl (lv_at hl 1 rfl) ?_
  obtain ⟨mm_1, hc_2, hf⟩ := bi1S hf
  refine wd_cv X hP hS L1088 ml_X12_235 ⟨_, _, rfl⟩ (c_X12_blanks l D dA zz bs mm mm_1 hc_2) rfl ⟨Nat.le_of_ble_eq_true rfl, Nat.le_of_ble_eq_true rfl⟩ hl.1 rfl (rest := []) (Nat.le_of_ble_eq_true rfl) ⟨Nat.zero_le _, Nat.zero_le _⟩ dX12_readsRapid_8 (fun H locs hP hS => ?_)
  refine W.eq (g2 := F0 m 11 ls []) rfl ?_
  refine lv_aload_n hx hb dX12_readsRapid_11 rfl (lv_at hl 1 rfl) ?_
  refine wd_getI X hP L1088 fl_X12_215 rfl dX12_readsRapid_12 ?_
  refine lv_istore_n (lv' := [(2, .int (mm_1.1 1088 32)), (1, .int (mm.1 1107 5)), (0, .ref (bs + 1088))]) hx hb dX12_readsRapid_15 rfl hl (by decide) rfl (fun ls hl => ?_)
  refine lv_aload_n hx hb dX12_readsRapid_16 rfl (lv_at hl 2 rfl) ?_
  refine lv_iconst (v := 1) hx hb dX12_readsRapid_17 (by decide) ?_
  refine lv_aload_n hx hb dX12_readsRapid_18 rfl (lv_at hl 2 rfl) ?_
  refine wd_getR (q := 1107) X hP L1088 fl_X12_64 rfl dX12_readsRapid_19 ?_
  refine lv_iconst (v := 0) hx hb dX12_readsRapid_22 (by decide) ?_
  refine wd_ialdK (k := 0) X hP L1107 (by decide) (by decide) dX12_readsRapid_23 ?_
  obtain ⟨r_5, mm_3, hc_4, hf⟩ := bi2S hf
  refine wd_cv X hP hS L1088 ml_X12_320 ⟨_, _, rfl⟩ (c_X12_amount l D dA zz bs mm_1 (1 : Int32) (mm_1.1 1107 0) r_5 mm_3 hc_4) rfl ⟨Nat.le_of_ble_eq_true rfl, Nat.le_of_ble_eq_true rfl⟩ hl.1 rfl (rest := []) (Nat.le_of_ble_eq_true rfl) ⟨Nat.zero_le _, Nat.zero_le _⟩ dX12_readsRapid_24 (fun H locs hP hS => ?_)
  refine W.eq (g2 := F0 m 27 ls [.int r_5]) rfl ?_
  refine lv_istore_n (lv' := [(3, .int r_5), (2, .int (mm_1.1 1088 32)), (1, .int (mm.1 1107 5)), (0, .ref (bs + 1088))]) hx hb dX12_readsRapid_27 rfl hl (by decide) rfl (fun ls hl => ?_)
  refine lv_iconst (v := 0) hx hb dX12_readsRapid_28 (by decide) ?_
  refine lv_istore (lv' := [(4, .int (0 : Int32)), (3, .int r_5), (2, .int (mm_1.1 1088 32)), (1, .int (mm.1 1107 5)), (0, .ref (bs + 1088))]) hx hb dX12_readsRapid_29 hl (by decide) rfl (fun ls hl => ?_)
  obtain ⟨q_22, hlp_23, hf⟩ := bi1S hf
  refine lp_walk (Wh := (fun z => match z with | (y4L_12, mmL_12) => ∀ (H : Heap) (locs : List Loc) (ls : Array Slot), Wd D dA bs LY mmL_12 H → va_S (Aq bs) s.heap H locs → lv_has ls 5 [(0, .ref (bs + 1088)), (1, .int (mm.1 1107 5)), (2, .int (mm_1.1 1088 32)), (3, .int r_5), (4, .int y4L_12)] → Wz p l e s m args below meth c D dA bs none m1 4 92 H locs 31 ls [])) (Ph := (fun mm_13 => ∀ (H : Heap) (locs : List Loc) (ls : Array Slot), Wd D dA bs LY mm_13 H → va_S (Aq bs) s.heap H locs → lv_has ls 5 [(0, .ref (bs + 1088)), (1, .int (mm.1 1107 5)), (3, .int r_5)] → Wz p l e s m args below meth c D dA bs none m1 4 92 H locs 67 ls [])) ?_ hlp_23 ?_ H locs ls hP hS (lv_sub hl [4, 3, 2, 1, 0] rfl)
  · intro z o hf hB hE
    obtain ⟨y4L_12, mmL_12⟩ := z
    intro H locs ls hP hS hl
    have hf : f_X12_readsRapid_s31 (mm.1 1107 5) (mm_1.1 1088 32) r_5 (y4L_12, mmL_12) = some o := hf
    unfold f_X12_readsRapid_s31 at hf
    dsimp only at hf
    refine lv_iload hx hb dX12_readsRapid_31 (lv_at hl 4 rfl) ?_
    refine lv_iload_n hx hb dX12_readsRapid_33 rfl (lv_at hl 1 rfl) ?_
    refine lv_icmp_ge (tgt := 67) hx hb dX12_readsRapid_34 (by decide) (fun c_6 => ?_) (fun c_6 => ?_)
    · have hf := itT hf c_6
      obtain rfl := Option.some.inj hf
      exact hE _ rfl H locs ls hP hS (lv_sub hl [0, 1, 3] rfl)
    · have hf := itF hf c_6
      refine lv_aload_n hx hb dX12_readsRapid_37 rfl (lv_at hl 0 rfl) ?_
      refine wd_getR (q := 1117) X hP L1088 fl_X12_94 rfl dX12_readsRapid_38 ?_
      refine lv_iload hx hb dX12_readsRapid_41 (lv_at hl 4 rfl) ?_
      have g_7 := gdN hf
      have hf := gdK hf
      refine wd_iald X hP L1117 g_7 dX12_readsRapid_43 ?_
      refine lv_iload_n hx hb dX12_readsRapid_44 rfl (lv_at hl 3 rfl) ?_
      refine lv_icmp_ne (tgt := 61) hx hb dX12_readsRapid_45 (by decide) (fun c_8 => ?_) (fun c_8 => ?_)
      · have hf := itF hf c_8
        refine lv_iinc (v := (y4L_12 + 1)) (lv' := [(4, .int (y4L_12 + 1)), (0, .ref (bs + 1088)), (1, .int (mm.1 1107 5)), (2, .int (mm_1.1 1088 32)), (3, .int r_5)]) hx hb dX12_readsRapid_61 hl (k := 4) rfl rfl (by decide) rfl (fun ls hl => ?_)
        refine lv_goto (tgt := 31) hx hb dX12_readsRapid_64 (by decide) ?_
        obtain rfl := Option.some.inj hf
        exact hB _ rfl H locs ls hP hS (lv_sub hl [1, 2, 3, 4, 0] rfl)
      · have hf := itT hf c_8
        refine lv_aload_n hx hb dX12_readsRapid_48 rfl (lv_at hl 0 rfl) ?_
        refine wd_getI X hP L1088 fl_X12_212 rfl dX12_readsRapid_49 ?_
        refine lv_if_ne (tgt := 61) hx hb dX12_readsRapid_52 (by decide) (fun c_9 => ?_) (fun c_9 => ?_)
        · have hf := itF hf c_9
          refine lv_iinc (v := (y4L_12 + 1)) (lv' := [(4, .int (y4L_12 + 1)), (0, .ref (bs + 1088)), (1, .int (mm.1 1107 5)), (2, .int (mm_1.1 1088 32)), (3, .int r_5)]) hx hb dX12_readsRapid_61 hl (k := 4) rfl rfl (by decide) rfl (fun ls hl => ?_)
          refine lv_goto (tgt := 31) hx hb dX12_readsRapid_64 (by decide) ?_
          obtain rfl := Option.some.inj hf
          exact hB _ rfl H locs ls hP hS (lv_sub hl [1, 2, 3, 4, 0] rfl)
        · have hf := itT hf c_9
          refine lv_aload_n hx hb dX12_readsRapid_55 rfl (lv_at hl 0 rfl) ?_
          refine lv_iconst (v := 1) hx hb dX12_readsRapid_56 (by decide) ?_
          refine lv_iload_n hx hb dX12_readsRapid_57 rfl (lv_at hl 2 rfl) ?_
          obtain ⟨mm_10, hc_11, hf⟩ := bi1S hf
          refine wd_cv X hP hS L1088 ml_X12_251 ⟨_, _, rfl⟩ (c_X12_fails l D dA zz bs mmL_12 (1 : Int32) (mm_1.1 1088 32) mm_10 hc_11) rfl ⟨Nat.le_of_ble_eq_true rfl, Nat.le_of_ble_eq_true rfl⟩ hl.1 rfl (rest := []) (Nat.le_of_ble_eq_true rfl) ⟨Nat.zero_le _, Nat.zero_le _⟩ dX12_readsRapid_58 (fun H locs hP hS => ?_)
          refine W.eq (g2 := F0 m 61 ls []) rfl ?_
          refine lv_iinc (v := (y4L_12 + 1)) (lv' := [(4, .int (y4L_12 + 1)), (0, .ref (bs + 1088)), (1, .int (mm.1 1107 5)), (2, .int (mm_1.1 1088 32)), (3, .int r_5)]) hx hb dX12_readsRapid_61 hl (k := 4) rfl rfl (by decide) rfl (fun ls hl => ?_)
          refine lv_goto (tgt := 31) hx hb dX12_readsRapid_64 (by decide) ?_
          obtain rfl := Option.some.inj hf
          exact hB _ rfl H locs ls hP hS (lv_sub hl [1, 2, 3, 4, 0] rfl)
  · obtain ⟨mm_13, e_mm_13⟩ : ∃ z, z = q_22 := ⟨_, rfl⟩
    subst e_mm_13
    intro H locs ls hP hS hl
    refine lv_aload_n hx hb dX12_readsRapid_67 rfl (lv_at hl 0 rfl) ?_
    refine wd_getR (q := 1117) X hP L1088 fl_X12_94 rfl dX12_readsRapid_68 ?_
    refine lv_iload_n hx hb dX12_readsRapid_71 rfl (lv_at hl 1 rfl) ?_
    refine lv_iload_n hx hb dX12_readsRapid_72 rfl (lv_at hl 2 rfl) ?_
    have g_15 := gdN hf
    have hf := gdK hf
    refine wd_iast X hP hS L1117 g_15 dX12_readsRapid_73 (fun H locs mm_14 emm_14 hP hS => ?_)
    have hf := vl hf emm_14
    refine lv_aload_n hx hb dX12_readsRapid_74 rfl (lv_at hl 0 rfl) ?_
    refine wd_getR (q := 1118) X hP L1088 fl_X12_97 rfl dX12_readsRapid_75 ?_
    refine lv_iload_n hx hb dX12_readsRapid_78 rfl (lv_at hl 1 rfl) ?_
    refine lv_aload_n hx hb dX12_readsRapid_79 rfl (lv_at hl 0 rfl) ?_
    refine lv_iconst (v := 1) hx hb dX12_readsRapid_80 (by decide) ?_
    refine lv_bipush (v := 9) hx hb dX12_readsRapid_81 (by decide) ?_
    obtain ⟨r_18, mm_16, hc_17, hf⟩ := bi2S hf
    refine wd_cv X hP hS L1088 ml_X12_320 ⟨_, _, rfl⟩ (c_X12_amount l D dA zz bs mm_14 (1 : Int32) (9 : Int32) r_18 mm_16 hc_17) rfl ⟨Nat.le_of_ble_eq_true rfl, Nat.le_of_ble_eq_true rfl⟩ hl.1 rfl (rest := [.int (mm.1 1107 5), .ref (bs + 1118)]) (Nat.le_of_ble_eq_true rfl) ⟨Nat.zero_le _, Nat.zero_le _⟩ dX12_readsRapid_83 (fun H locs hP hS => ?_)
    refine W.eq (g2 := F0 m 86 ls [.int r_18, .int (mm.1 1107 5), .ref (bs + 1118)]) rfl ?_
    have g_20 := gdN hf
    have hf := gdK hf
    refine wd_iast X hP hS L1118 g_20 dX12_readsRapid_86 (fun H locs mm_19 emm_19 hP hS => ?_)
    have hf := vl hf emm_19
    refine lv_aload_n hx hb dX12_readsRapid_87 rfl (lv_at hl 0 rfl) ?_
    refine wd_getR (q := 1107) X hP L1088 fl_X12_64 rfl dX12_readsRapid_88 ?_
    refine lv_iconst (v := 5) hx hb dX12_readsRapid_91 (by decide) ?_
    refine lv_dup2_11 hx hb dX12_readsRapid_92 rfl rfl ?_
    refine wd_ialdK (k := 5) X hP L1107 (by decide) (by decide) dX12_readsRapid_93 ?_
    refine lv_iconst (v := 1) hx hb dX12_readsRapid_94 (by decide) ?_
    refine lv_iadd hx hb dX12_readsRapid_95 ?_
    refine wd_iastK (k := 5) X hP hS L1107 (by decide) (by decide) dX12_readsRapid_96 (fun H locs mm_21 emm_21 hP hS => ?_)
    have hf := vl hf emm_21
    obtain rfl := Option.some.inj hf
    exact wd_vret X hP hS hr0 dX12_readsRapid_97 ⟨rfl, rfl⟩

noncomputable def f_X12_riverPart (mm : Mm) (x1 : Int32) : Option (Mm) :=
  if x1 = 0 then
    bi2 (f_X12_amount mm (2 : Int32) (99 : Int32)) fun r_4 mm_2 =>
      vlet (wI mm_2 1107 0 r_4) fun mm_5 =>
        bi2 (f_X12_amount mm_5 (0 : Int32) (99 : Int32)) fun r_8 mm_6 => vlet (wI mm_6 1107 1 r_8) fun mm_9 => some mm_9
  else if x1 = 1 then
    bi2 (f_X12_amount mm (1 : Int32) (mm.1 1107 0)) fun r_13 mm_11 =>
      if (mm.1 1107 2) < 0 ∨ 6 ≤ (mm.1 1107 2).toNatClampNeg then none else
        vlet (wI mm_11 1108 (mm.1 1107 2).toNatClampNeg r_13) fun mm_14 =>
          bi2 (f_X12_amount mm_14 (0 : Int32) (20 : Int32)) fun r_18 mm_16 =>
            if (mm.1 1107 2) < 0 ∨ 6 ≤ (mm.1 1107 2).toNatClampNeg then none else
              vlet (wI mm_16 1109 (mm.1 1107 2).toNatClampNeg r_18) fun mm_19 =>
                vlet (wI mm_19 1107 2 ((mm_19.1 1107 2) + (1 : Int32))) fun mm_21 => some mm_21
  else if x1 = 2 then
    bi2 (f_X12_amount mm (0 : Int32) ((mm.1 1107 2) - (1 : Int32))) fun r_25 mm_23 =>
      if (mm.1 1107 3) < 0 ∨ 8 ≤ (mm.1 1107 3).toNatClampNeg then none else
        vlet (wI mm_23 1110 (mm.1 1107 3).toNatClampNeg r_25) fun mm_26 =>
          bi2 (f_X12_amount mm_26 (0 : Int32) (50 : Int32)) fun r_30 mm_28 =>
            if (mm.1 1107 3) < 0 ∨ 8 ≤ (mm.1 1107 3).toNatClampNeg then none else
              vlet (wI mm_28 1111 (mm.1 1107 3).toNatClampNeg r_30) fun mm_31 =>
                bi2 (f_X12_amount mm_31 (0 : Int32) (99 : Int32)) fun r_35 mm_33 =>
                  if (mm.1 1107 3) < 0 ∨ 8 ≤ (mm.1 1107 3).toNatClampNeg then none else
                    vlet (wI mm_33 1112 (mm.1 1107 3).toNatClampNeg r_35) fun mm_36 =>
                      bi2 (f_X12_amount mm_36 (0 : Int32) (9 : Int32)) fun r_40 mm_38 =>
                        if (mm.1 1107 3) < 0 ∨ 8 ≤ (mm.1 1107 3).toNatClampNeg then none else
                          vlet (wI mm_38 1113 (mm.1 1107 3).toNatClampNeg r_40) fun mm_41 =>
                            vlet (wI mm_41 1107 3 ((mm_41.1 1107 3) + (1 : Int32))) fun mm_43 => some mm_43
  else if x1 = 3 then
    bi1 (f_X12_readsBound mm) fun mm_45 => some mm_45
  else
    bi1 (f_X12_readsRapid mm) fun mm_47 => some mm_47
set_option maxHeartbeats 4000000 in
set_option maxRecDepth 100000 in
theorem c_X12_riverPart (l : Launch) (D : va_G) (dA : Nat → ClassId) (zz : (Nat → Nat) × (Nat → Nat)) (bs : Nat) (mm : Mm) (x1 : Int32) (m1 : Mm) (hf : f_X12_riverPart mm x1 = some m1) : Mw l D dA zz bs LY yX12_riverPart cX12_riverPart 3 none 5 116 [.ref (bs + 1088), .int x1] mm none m1 := by
  refine Mw.of (own := RX12) (by decide) rfl (Nat.le_of_ble_eq_true rfl) ?_
  intro p e s m args below meth c X hr0 hP hS ls hl
  have hx := X.1
  have hb := X.2.1
  obtain ⟨H, hH⟩ : ∃ z : Heap, z = s.heap := ⟨_, rfl⟩
  obtain ⟨locs, hL⟩ : ∃ z : List Loc, z = [] := ⟨_, rfl⟩
  rw [← hH, ← hL]
  have hS : va_S (Aq bs) s.heap H locs := by rw [hH, hL]; exact hS
  have hP : Wd D dA bs LY mm H := by rw [hH]; exact hP
  have hl : lv_has ls 3 [(0, .ref (bs + 1088)), (1, .int x1)] := hl
  unfold f_X12_riverPart at hf
  refine lv_iload_n hx hb dX12_riverPart_0 rfl (lv_at hl 1 rfl) ?_
  by_cases c_1 : x1 = 0
  · have hf := itT hf c_1
    refine lv_tableIn (tgt := 32) (off := 31) hx hb dX12_riverPart_1 (by rw [c_1]; decide) (by rw [c_1]; decide) (by rw [c_1]; decide) (by decide) ?_
    refine lv_aload_n hx hb dX12_riverPart_32 rfl (lv_at hl 0 rfl) ?_
    refine wd_getR (q := 1107) X hP L1088 fl_X12_64 rfl dX12_riverPart_33 ?_
    refine lv_iconst (v := 0) hx hb dX12_riverPart_36 (by decide) ?_
    refine lv_aload_n hx hb dX12_riverPart_37 rfl (lv_at hl 0 rfl) ?_
    refine lv_iconst (v := 2) hx hb dX12_riverPart_38 (by decide) ?_
    refine lv_bipush (v := 99) hx hb dX12_riverPart_39 (by decide) ?_
    obtain ⟨r_4, mm_2, hc_3, hf⟩ := bi2S hf
    refine wd_cv X hP hS L1088 ml_X12_320 ⟨_, _, rfl⟩ (c_X12_amount l D dA zz bs mm (2 : Int32) (99 : Int32) r_4 mm_2 hc_3) rfl ⟨Nat.le_of_ble_eq_true rfl, Nat.le_of_ble_eq_true rfl⟩ hl.1 rfl (rest := [.int (0 : Int32), .ref (bs + 1107)]) (Nat.le_of_ble_eq_true rfl) ⟨Nat.zero_le _, Nat.zero_le _⟩ dX12_riverPart_41 (fun H locs hP hS => ?_)
    refine W.eq (g2 := F0 m 44 ls [.int r_4, .int (0 : Int32), .ref (bs + 1107)]) rfl ?_
    refine wd_iastK (k := 0) X hP hS L1107 (by decide) (by decide) dX12_riverPart_44 (fun H locs mm_5 emm_5 hP hS => ?_)
    have hf := vl hf emm_5
    refine lv_aload_n hx hb dX12_riverPart_45 rfl (lv_at hl 0 rfl) ?_
    refine wd_getR (q := 1107) X hP L1088 fl_X12_64 rfl dX12_riverPart_46 ?_
    refine lv_iconst (v := 1) hx hb dX12_riverPart_49 (by decide) ?_
    refine lv_aload_n hx hb dX12_riverPart_50 rfl (lv_at hl 0 rfl) ?_
    refine lv_iconst (v := 0) hx hb dX12_riverPart_51 (by decide) ?_
    refine lv_bipush (v := 99) hx hb dX12_riverPart_52 (by decide) ?_
    obtain ⟨r_8, mm_6, hc_7, hf⟩ := bi2S hf
    refine wd_cv X hP hS L1088 ml_X12_320 ⟨_, _, rfl⟩ (c_X12_amount l D dA zz bs mm_5 (0 : Int32) (99 : Int32) r_8 mm_6 hc_7) rfl ⟨Nat.le_of_ble_eq_true rfl, Nat.le_of_ble_eq_true rfl⟩ hl.1 rfl (rest := [.int (1 : Int32), .ref (bs + 1107)]) (Nat.le_of_ble_eq_true rfl) ⟨Nat.zero_le _, Nat.zero_le _⟩ dX12_riverPart_54 (fun H locs hP hS => ?_)
    refine W.eq (g2 := F0 m 57 ls [.int r_8, .int (1 : Int32), .ref (bs + 1107)]) rfl ?_
    refine wd_iastK (k := 1) X hP hS L1107 (by decide) (by decide) dX12_riverPart_57 (fun H locs mm_9 emm_9 hP hS => ?_)
    have hf := vl hf emm_9
    refine lv_goto (tgt := 200) hx hb dX12_riverPart_58 (by decide) ?_
    obtain rfl := Option.some.inj hf
    exact wd_vret X hP hS hr0 dX12_riverPart_200 ⟨rfl, rfl⟩
  · have hf := itF hf c_1
    by_cases c_10 : x1 = 1
    · have hf := itT hf c_10
      refine lv_tableIn (tgt := 61) (off := 60) hx hb dX12_riverPart_1 (by rw [c_10]; decide) (by rw [c_10]; decide) (by rw [c_10]; decide) (by decide) ?_
      refine lv_aload_n hx hb dX12_riverPart_61 rfl (lv_at hl 0 rfl) ?_
      refine wd_getR (q := 1107) X hP L1088 fl_X12_64 rfl dX12_riverPart_62 ?_
      refine lv_iconst (v := 2) hx hb dX12_riverPart_65 (by decide) ?_
      refine wd_ialdK (k := 2) X hP L1107 (by decide) (by decide) dX12_riverPart_66 ?_
      refine lv_istore_n (lv' := [(2, .int (mm.1 1107 2)), (0, .ref (bs + 1088)), (1, .int x1)]) hx hb dX12_riverPart_67 rfl hl (by decide) rfl (fun ls hl => ?_)
      refine lv_aload_n hx hb dX12_riverPart_68 rfl (lv_at hl 1 rfl) ?_
      refine wd_getR (q := 1108) X hP L1088 fl_X12_67 rfl dX12_riverPart_69 ?_
      refine lv_iload_n hx hb dX12_riverPart_72 rfl (lv_at hl 0 rfl) ?_
      refine lv_aload_n hx hb dX12_riverPart_73 rfl (lv_at hl 1 rfl) ?_
      refine lv_iconst (v := 1) hx hb dX12_riverPart_74 (by decide) ?_
      refine lv_aload_n hx hb dX12_riverPart_75 rfl (lv_at hl 1 rfl) ?_
      refine wd_getR (q := 1107) X hP L1088 fl_X12_64 rfl dX12_riverPart_76 ?_
      refine lv_iconst (v := 0) hx hb dX12_riverPart_79 (by decide) ?_
      refine wd_ialdK (k := 0) X hP L1107 (by decide) (by decide) dX12_riverPart_80 ?_
      obtain ⟨r_13, mm_11, hc_12, hf⟩ := bi2S hf
      refine wd_cv X hP hS L1088 ml_X12_320 ⟨_, _, rfl⟩ (c_X12_amount l D dA zz bs mm (1 : Int32) (mm.1 1107 0) r_13 mm_11 hc_12) rfl ⟨Nat.le_of_ble_eq_true rfl, Nat.le_of_ble_eq_true rfl⟩ hl.1 rfl (rest := [.int (mm.1 1107 2), .ref (bs + 1108)]) (Nat.le_of_ble_eq_true rfl) ⟨Nat.zero_le _, Nat.zero_le _⟩ dX12_riverPart_81 (fun H locs hP hS => ?_)
      refine W.eq (g2 := F0 m 84 ls [.int r_13, .int (mm.1 1107 2), .ref (bs + 1108)]) rfl ?_
      have g_15 := gdN hf
      have hf := gdK hf
      refine wd_iast X hP hS L1108 g_15 dX12_riverPart_84 (fun H locs mm_14 emm_14 hP hS => ?_)
      have hf := vl hf emm_14
      refine lv_aload_n hx hb dX12_riverPart_85 rfl (lv_at hl 1 rfl) ?_
      refine wd_getR (q := 1109) X hP L1088 fl_X12_70 rfl dX12_riverPart_86 ?_
      refine lv_iload_n hx hb dX12_riverPart_89 rfl (lv_at hl 0 rfl) ?_
      refine lv_aload_n hx hb dX12_riverPart_90 rfl (lv_at hl 1 rfl) ?_
      refine lv_iconst (v := 0) hx hb dX12_riverPart_91 (by decide) ?_
      refine lv_bipush (v := 20) hx hb dX12_riverPart_92 (by decide) ?_
      obtain ⟨r_18, mm_16, hc_17, hf⟩ := bi2S hf
      refine wd_cv X hP hS L1088 ml_X12_320 ⟨_, _, rfl⟩ (c_X12_amount l D dA zz bs mm_14 (0 : Int32) (20 : Int32) r_18 mm_16 hc_17) rfl ⟨Nat.le_of_ble_eq_true rfl, Nat.le_of_ble_eq_true rfl⟩ hl.1 rfl (rest := [.int (mm.1 1107 2), .ref (bs + 1109)]) (Nat.le_of_ble_eq_true rfl) ⟨Nat.zero_le _, Nat.zero_le _⟩ dX12_riverPart_94 (fun H locs hP hS => ?_)
      refine W.eq (g2 := F0 m 97 ls [.int r_18, .int (mm.1 1107 2), .ref (bs + 1109)]) rfl ?_
      have g_20 := gdN hf
      have hf := gdK hf
      refine wd_iast X hP hS L1109 g_20 dX12_riverPart_97 (fun H locs mm_19 emm_19 hP hS => ?_)
      have hf := vl hf emm_19
      refine lv_aload_n hx hb dX12_riverPart_98 rfl (lv_at hl 1 rfl) ?_
      refine wd_getR (q := 1107) X hP L1088 fl_X12_64 rfl dX12_riverPart_99 ?_
      refine lv_iconst (v := 2) hx hb dX12_riverPart_102 (by decide) ?_
      refine lv_dup2_11 hx hb dX12_riverPart_103 rfl rfl ?_
      refine wd_ialdK (k := 2) X hP L1107 (by decide) (by decide) dX12_riverPart_104 ?_
      refine lv_iconst (v := 1) hx hb dX12_riverPart_105 (by decide) ?_
      refine lv_iadd hx hb dX12_riverPart_106 ?_
      refine wd_iastK (k := 2) X hP hS L1107 (by decide) (by decide) dX12_riverPart_107 (fun H locs mm_21 emm_21 hP hS => ?_)
      have hf := vl hf emm_21
      refine lv_goto (tgt := 200) hx hb dX12_riverPart_108 (by decide) ?_
      obtain rfl := Option.some.inj hf
      exact wd_vret X hP hS hr0 dX12_riverPart_200 ⟨rfl, rfl⟩
    · have hf := itF hf c_10
      by_cases c_22 : x1 = 2
      · have hf := itT hf c_22
        refine lv_tableIn (tgt := 111) (off := 110) hx hb dX12_riverPart_1 (by rw [c_22]; decide) (by rw [c_22]; decide) (by rw [c_22]; decide) (by decide) ?_
        refine lv_aload_n hx hb dX12_riverPart_111 rfl (lv_at hl 0 rfl) ?_
        refine wd_getR (q := 1107) X hP L1088 fl_X12_64 rfl dX12_riverPart_112 ?_
        refine lv_iconst (v := 3) hx hb dX12_riverPart_115 (by decide) ?_
        refine wd_ialdK (k := 3) X hP L1107 (by decide) (by decide) dX12_riverPart_116 ?_
        refine lv_istore_n (lv' := [(2, .int (mm.1 1107 3)), (0, .ref (bs + 1088)), (1, .int x1)]) hx hb dX12_riverPart_117 rfl hl (by decide) rfl (fun ls hl => ?_)
        refine lv_aload_n hx hb dX12_riverPart_118 rfl (lv_at hl 1 rfl) ?_
        refine wd_getR (q := 1110) X hP L1088 fl_X12_73 rfl dX12_riverPart_119 ?_
        refine lv_iload_n hx hb dX12_riverPart_122 rfl (lv_at hl 0 rfl) ?_
        refine lv_aload_n hx hb dX12_riverPart_123 rfl (lv_at hl 1 rfl) ?_
        refine lv_iconst (v := 0) hx hb dX12_riverPart_124 (by decide) ?_
        refine lv_aload_n hx hb dX12_riverPart_125 rfl (lv_at hl 1 rfl) ?_
        refine wd_getR (q := 1107) X hP L1088 fl_X12_64 rfl dX12_riverPart_126 ?_
        refine lv_iconst (v := 2) hx hb dX12_riverPart_129 (by decide) ?_
        refine wd_ialdK (k := 2) X hP L1107 (by decide) (by decide) dX12_riverPart_130 ?_
        refine lv_iconst (v := 1) hx hb dX12_riverPart_131 (by decide) ?_
        refine lv_isub hx hb dX12_riverPart_132 ?_
        obtain ⟨r_25, mm_23, hc_24, hf⟩ := bi2S hf
        refine wd_cv X hP hS L1088 ml_X12_320 ⟨_, _, rfl⟩ (c_X12_amount l D dA zz bs mm (0 : Int32) ((mm.1 1107 2) - (1 : Int32)) r_25 mm_23 hc_24) rfl ⟨Nat.le_of_ble_eq_true rfl, Nat.le_of_ble_eq_true rfl⟩ hl.1 rfl (rest := [.int (mm.1 1107 3), .ref (bs + 1110)]) (Nat.le_of_ble_eq_true rfl) ⟨Nat.zero_le _, Nat.zero_le _⟩ dX12_riverPart_133 (fun H locs hP hS => ?_)
        refine W.eq (g2 := F0 m 136 ls [.int r_25, .int (mm.1 1107 3), .ref (bs + 1110)]) rfl ?_
        have g_27 := gdN hf
        have hf := gdK hf
        refine wd_iast X hP hS L1110 g_27 dX12_riverPart_136 (fun H locs mm_26 emm_26 hP hS => ?_)
        have hf := vl hf emm_26
        refine lv_aload_n hx hb dX12_riverPart_137 rfl (lv_at hl 1 rfl) ?_
        refine wd_getR (q := 1111) X hP L1088 fl_X12_76 rfl dX12_riverPart_138 ?_
        refine lv_iload_n hx hb dX12_riverPart_141 rfl (lv_at hl 0 rfl) ?_
        refine lv_aload_n hx hb dX12_riverPart_142 rfl (lv_at hl 1 rfl) ?_
        refine lv_iconst (v := 0) hx hb dX12_riverPart_143 (by decide) ?_
        refine lv_bipush (v := 50) hx hb dX12_riverPart_144 (by decide) ?_
        obtain ⟨r_30, mm_28, hc_29, hf⟩ := bi2S hf
        refine wd_cv X hP hS L1088 ml_X12_320 ⟨_, _, rfl⟩ (c_X12_amount l D dA zz bs mm_26 (0 : Int32) (50 : Int32) r_30 mm_28 hc_29) rfl ⟨Nat.le_of_ble_eq_true rfl, Nat.le_of_ble_eq_true rfl⟩ hl.1 rfl (rest := [.int (mm.1 1107 3), .ref (bs + 1111)]) (Nat.le_of_ble_eq_true rfl) ⟨Nat.zero_le _, Nat.zero_le _⟩ dX12_riverPart_146 (fun H locs hP hS => ?_)
        refine W.eq (g2 := F0 m 149 ls [.int r_30, .int (mm.1 1107 3), .ref (bs + 1111)]) rfl ?_
        have g_32 := gdN hf
        have hf := gdK hf
        refine wd_iast X hP hS L1111 g_32 dX12_riverPart_149 (fun H locs mm_31 emm_31 hP hS => ?_)
        have hf := vl hf emm_31
        refine lv_aload_n hx hb dX12_riverPart_150 rfl (lv_at hl 1 rfl) ?_
        refine wd_getR (q := 1112) X hP L1088 fl_X12_79 rfl dX12_riverPart_151 ?_
        refine lv_iload_n hx hb dX12_riverPart_154 rfl (lv_at hl 0 rfl) ?_
        refine lv_aload_n hx hb dX12_riverPart_155 rfl (lv_at hl 1 rfl) ?_
        refine lv_iconst (v := 0) hx hb dX12_riverPart_156 (by decide) ?_
        refine lv_bipush (v := 99) hx hb dX12_riverPart_157 (by decide) ?_
        obtain ⟨r_35, mm_33, hc_34, hf⟩ := bi2S hf
        refine wd_cv X hP hS L1088 ml_X12_320 ⟨_, _, rfl⟩ (c_X12_amount l D dA zz bs mm_31 (0 : Int32) (99 : Int32) r_35 mm_33 hc_34) rfl ⟨Nat.le_of_ble_eq_true rfl, Nat.le_of_ble_eq_true rfl⟩ hl.1 rfl (rest := [.int (mm.1 1107 3), .ref (bs + 1112)]) (Nat.le_of_ble_eq_true rfl) ⟨Nat.zero_le _, Nat.zero_le _⟩ dX12_riverPart_159 (fun H locs hP hS => ?_)
        refine W.eq (g2 := F0 m 162 ls [.int r_35, .int (mm.1 1107 3), .ref (bs + 1112)]) rfl ?_
        have g_37 := gdN hf
        have hf := gdK hf
        refine wd_iast X hP hS L1112 g_37 dX12_riverPart_162 (fun H locs mm_36 emm_36 hP hS => ?_)
        have hf := vl hf emm_36
        refine lv_aload_n hx hb dX12_riverPart_163 rfl (lv_at hl 1 rfl) ?_
        refine wd_getR (q := 1113) X hP L1088 fl_X12_82 rfl dX12_riverPart_164 ?_
        refine lv_iload_n hx hb dX12_riverPart_167 rfl (lv_at hl 0 rfl) ?_
        refine lv_aload_n hx hb dX12_riverPart_168 rfl (lv_at hl 1 rfl) ?_
        refine lv_iconst (v := 0) hx hb dX12_riverPart_169 (by decide) ?_
        refine lv_bipush (v := 9) hx hb dX12_riverPart_170 (by decide) ?_
        obtain ⟨r_40, mm_38, hc_39, hf⟩ := bi2S hf
        refine wd_cv X hP hS L1088 ml_X12_320 ⟨_, _, rfl⟩ (c_X12_amount l D dA zz bs mm_36 (0 : Int32) (9 : Int32) r_40 mm_38 hc_39) rfl ⟨Nat.le_of_ble_eq_true rfl, Nat.le_of_ble_eq_true rfl⟩ hl.1 rfl (rest := [.int (mm.1 1107 3), .ref (bs + 1113)]) (Nat.le_of_ble_eq_true rfl) ⟨Nat.zero_le _, Nat.zero_le _⟩ dX12_riverPart_172 (fun H locs hP hS => ?_)
        refine W.eq (g2 := F0 m 175 ls [.int r_40, .int (mm.1 1107 3), .ref (bs + 1113)]) rfl ?_
        have g_42 := gdN hf
        have hf := gdK hf
        refine wd_iast X hP hS L1113 g_42 dX12_riverPart_175 (fun H locs mm_41 emm_41 hP hS => ?_)
        have hf := vl hf emm_41
        refine lv_aload_n hx hb dX12_riverPart_176 rfl (lv_at hl 1 rfl) ?_
        refine wd_getR (q := 1107) X hP L1088 fl_X12_64 rfl dX12_riverPart_177 ?_
        refine lv_iconst (v := 3) hx hb dX12_riverPart_180 (by decide) ?_
        refine lv_dup2_11 hx hb dX12_riverPart_181 rfl rfl ?_
        refine wd_ialdK (k := 3) X hP L1107 (by decide) (by decide) dX12_riverPart_182 ?_
        refine lv_iconst (v := 1) hx hb dX12_riverPart_183 (by decide) ?_
        refine lv_iadd hx hb dX12_riverPart_184 ?_
        refine wd_iastK (k := 3) X hP hS L1107 (by decide) (by decide) dX12_riverPart_185 (fun H locs mm_43 emm_43 hP hS => ?_)
        have hf := vl hf emm_43
        refine lv_goto (tgt := 200) hx hb dX12_riverPart_186 (by decide) ?_
        obtain rfl := Option.some.inj hf
        exact wd_vret X hP hS hr0 dX12_riverPart_200 ⟨rfl, rfl⟩
      · have hf := itF hf c_22
        by_cases c_44 : x1 = 3
        · have hf := itT hf c_44
          refine lv_tableIn (tgt := 189) (off := 188) hx hb dX12_riverPart_1 (by rw [c_44]; decide) (by rw [c_44]; decide) (by rw [c_44]; decide) (by decide) ?_
          refine lv_aload_n hx hb dX12_riverPart_189 rfl (lv_at hl 0 rfl) ?_
          obtain ⟨mm_45, hc_46, hf⟩ := bi1S hf
          refine wd_cv X hP hS L1088 ml_X12_328 ⟨_, _, rfl⟩ (c_X12_readsBound l D dA zz bs mm mm_45 hc_46) rfl ⟨Nat.le_of_ble_eq_true rfl, Nat.le_of_ble_eq_true rfl⟩ hl.1 rfl (rest := []) (Nat.le_of_ble_eq_true rfl) ⟨Nat.zero_le _, Nat.zero_le _⟩ dX12_riverPart_190 (fun H locs hP hS => ?_)
          refine W.eq (g2 := F0 m 193 ls []) rfl ?_
          refine lv_goto (tgt := 200) hx hb dX12_riverPart_193 (by decide) ?_
          obtain rfl := Option.some.inj hf
          exact wd_vret X hP hS hr0 dX12_riverPart_200 ⟨rfl, rfl⟩
        · have hf := itF hf c_44
          refine lv_tableOut (tgt := 196) hx hb dX12_riverPart_1 (tb_out4 c_1 c_10 c_22 c_44) (by decide) ?_
          refine lv_aload_n hx hb dX12_riverPart_196 rfl (lv_at hl 0 rfl) ?_
          obtain ⟨mm_47, hc_48, hf⟩ := bi1S hf
          refine wd_cv X hP hS L1088 ml_X12_331 ⟨_, _, rfl⟩ (c_X12_readsRapid l D dA zz bs mm mm_47 hc_48) rfl ⟨Nat.le_of_ble_eq_true rfl, Nat.le_of_ble_eq_true rfl⟩ hl.1 rfl (rest := []) (Nat.le_of_ble_eq_true rfl) ⟨Nat.zero_le _, Nat.zero_le _⟩ dX12_riverPart_197 (fun H locs hP hS => ?_)
          refine W.eq (g2 := F0 m 200 ls []) rfl ?_
          obtain rfl := Option.some.inj hf
          exact wd_vret X hP hS hr0 dX12_riverPart_200 ⟨rfl, rfl⟩

noncomputable def f_X12_isFull_j24 (mm : Mm) (y1 : Int32) (z0 : Int32) (z1 : Int32) : Int32 :=
  if z1 = z0 then
    if y1 = 1 then
      if (mm.1 1107 2) = (6 : Int32) then
        (1 : Int32)
      else
        (0 : Int32)
    else if y1 = 2 then
      if (mm.1 1107 3) = (8 : Int32) then
        (1 : Int32)
      else
        (0 : Int32)
    else if y1 = 3 then
      if (mm.1 1107 4) = (12 : Int32) then
        (1 : Int32)
      else
        (0 : Int32)
    else if y1 = 4 then
      if (mm.1 1107 5) = (6 : Int32) then
        (1 : Int32)
      else
        (0 : Int32)
    else
      (0 : Int32)
  else
    (1 : Int32)
noncomputable def f_X12_isFull_j15 (mm : Mm) (y1 : Int32) (y2 : Int32) (z0 : Int32) : Int32 :=
  if y2 = 0 then
    f_X12_isFull_j24 mm y1 (1 : Int32) z0
  else
    f_X12_isFull_j24 mm y1 (0 : Int32) z0
noncomputable def f_X12_isFull (mm : Mm) (x1 : Int32) (x2 : Int32) : Int32 :=
  if x2 = (40 : Int32) then
    (1 : Int32)
  else
    if x1 = 0 then
      f_X12_isFull_j15 mm x1 x2 (1 : Int32)
    else
      f_X12_isFull_j15 mm x1 x2 (0 : Int32)
set_option maxHeartbeats 4000000 in
set_option maxRecDepth 100000 in
theorem c_X12_isFull (l : Launch) (D : va_G) (dA : Nat → ClassId) (zz : (Nat → Nat) × (Nat → Nat)) (bs : Nat) (mm : Mm) (x1 : Int32) (x2 : Int32) (out : Int32) (hf : f_X12_isFull mm x1 x2 = out) : Mw l D dA zz bs LY yX12_isFull cX12_isFull 3 (some .boolean) 0 0 [.ref (bs + 1088), .int x1, .int x2] mm (some (.int out)) mm := by
  refine Mw.of (own := RX12) (by decide) rfl (Nat.le_of_ble_eq_true rfl) ?_
  intro p e s m args below meth c X hr0 hP hS ls hl
  have hx := X.1
  have hb := X.2.1
  obtain ⟨H, hH⟩ : ∃ z : Heap, z = s.heap := ⟨_, rfl⟩
  obtain ⟨locs, hL⟩ : ∃ z : List Loc, z = [] := ⟨_, rfl⟩
  rw [← hH, ← hL]
  have hS : va_S (Aq bs) s.heap H locs := by rw [hH, hL]; exact hS
  have hP : Wd D dA bs LY mm H := by rw [hH]; exact hP
  have hl : lv_has ls 3 [(0, .ref (bs + 1088)), (1, .int x1), (2, .int x2)] := hl
  have hJ24 : ∀ (y1J_10 : Int32) (z0J_10 : Int32) (z1J_10 : Int32) (H : Heap) (locs : List Loc) (ls : Array Slot), f_X12_isFull_j24 mm y1J_10 z0J_10 z1J_10 = out → Wd D dA bs LY mm H → va_S (Aq bs) s.heap H locs → lv_has ls 3 [(0, .ref (bs + 1088)), (1, .int y1J_10)] → Wz p l e s m args below meth c D dA bs (some (.int out)) mm 0 0 H locs 24 ls [.int z0J_10, .int z1J_10] := by
    intro y1J_10 z0J_10 z1J_10 H locs ls hf hP hS hl
    unfold f_X12_isFull_j24 at hf
    refine lv_icmp_eq (tgt := 29) hx hb dX12_isFull_24 (by decide) (fun c_1 => ?_) (fun c_1 => ?_)
    · have hf := itT hf c_1
      refine lv_iload_n hx hb dX12_isFull_29 rfl (lv_at hl 1 rfl) ?_
      by_cases c_2 : y1J_10 = 1
      · have hf := itT hf c_2
        refine lv_tableIn (tgt := 60) (off := 30) hx hb dX12_isFull_30 (by rw [c_2]; decide) (by rw [c_2]; decide) (by rw [c_2]; decide) (by decide) ?_
        refine lv_aload_n hx hb dX12_isFull_60 rfl (lv_at hl 0 rfl) ?_
        refine wd_getR (q := 1107) X hP L1088 fl_X12_64 rfl dX12_isFull_61 ?_
        refine lv_iconst (v := 2) hx hb dX12_isFull_64 (by decide) ?_
        refine wd_ialdK (k := 2) X hP L1107 (by decide) (by decide) dX12_isFull_65 ?_
        refine lv_bipush (v := 6) hx hb dX12_isFull_66 (by decide) ?_
        refine lv_icmp_ne (tgt := 75) hx hb dX12_isFull_68 (by decide) (fun c_3 => ?_) (fun c_3 => ?_)
        · have hf := itF hf c_3
          refine lv_iconst (v := 0) hx hb dX12_isFull_75 (by decide) ?_
          subst hf
          exact wd_zret X hP hS hr0 (by decide) dX12_isFull_76 ⟨rfl, rfl⟩
        · have hf := itT hf c_3
          refine lv_iconst (v := 1) hx hb dX12_isFull_71 (by decide) ?_
          refine lv_goto (tgt := 76) hx hb dX12_isFull_72 (by decide) ?_
          subst hf
          exact wd_zret X hP hS hr0 (by decide) dX12_isFull_76 ⟨rfl, rfl⟩
      · have hf := itF hf c_2
        by_cases c_4 : y1J_10 = 2
        · have hf := itT hf c_4
          refine lv_tableIn (tgt := 77) (off := 47) hx hb dX12_isFull_30 (by rw [c_4]; decide) (by rw [c_4]; decide) (by rw [c_4]; decide) (by decide) ?_
          refine lv_aload_n hx hb dX12_isFull_77 rfl (lv_at hl 0 rfl) ?_
          refine wd_getR (q := 1107) X hP L1088 fl_X12_64 rfl dX12_isFull_78 ?_
          refine lv_iconst (v := 3) hx hb dX12_isFull_81 (by decide) ?_
          refine wd_ialdK (k := 3) X hP L1107 (by decide) (by decide) dX12_isFull_82 ?_
          refine lv_bipush (v := 8) hx hb dX12_isFull_83 (by decide) ?_
          refine lv_icmp_ne (tgt := 92) hx hb dX12_isFull_85 (by decide) (fun c_5 => ?_) (fun c_5 => ?_)
          · have hf := itF hf c_5
            refine lv_iconst (v := 0) hx hb dX12_isFull_92 (by decide) ?_
            subst hf
            exact wd_zret X hP hS hr0 (by decide) dX12_isFull_93 ⟨rfl, rfl⟩
          · have hf := itT hf c_5
            refine lv_iconst (v := 1) hx hb dX12_isFull_88 (by decide) ?_
            refine lv_goto (tgt := 93) hx hb dX12_isFull_89 (by decide) ?_
            subst hf
            exact wd_zret X hP hS hr0 (by decide) dX12_isFull_93 ⟨rfl, rfl⟩
        · have hf := itF hf c_4
          by_cases c_6 : y1J_10 = 3
          · have hf := itT hf c_6
            refine lv_tableIn (tgt := 94) (off := 64) hx hb dX12_isFull_30 (by rw [c_6]; decide) (by rw [c_6]; decide) (by rw [c_6]; decide) (by decide) ?_
            refine lv_aload_n hx hb dX12_isFull_94 rfl (lv_at hl 0 rfl) ?_
            refine wd_getR (q := 1107) X hP L1088 fl_X12_64 rfl dX12_isFull_95 ?_
            refine lv_iconst (v := 4) hx hb dX12_isFull_98 (by decide) ?_
            refine wd_ialdK (k := 4) X hP L1107 (by decide) (by decide) dX12_isFull_99 ?_
            refine lv_bipush (v := 12) hx hb dX12_isFull_100 (by decide) ?_
            refine lv_icmp_ne (tgt := 109) hx hb dX12_isFull_102 (by decide) (fun c_7 => ?_) (fun c_7 => ?_)
            · have hf := itF hf c_7
              refine lv_iconst (v := 0) hx hb dX12_isFull_109 (by decide) ?_
              subst hf
              exact wd_zret X hP hS hr0 (by decide) dX12_isFull_110 ⟨rfl, rfl⟩
            · have hf := itT hf c_7
              refine lv_iconst (v := 1) hx hb dX12_isFull_105 (by decide) ?_
              refine lv_goto (tgt := 110) hx hb dX12_isFull_106 (by decide) ?_
              subst hf
              exact wd_zret X hP hS hr0 (by decide) dX12_isFull_110 ⟨rfl, rfl⟩
          · have hf := itF hf c_6
            by_cases c_8 : y1J_10 = 4
            · have hf := itT hf c_8
              refine lv_tableIn (tgt := 111) (off := 81) hx hb dX12_isFull_30 (by rw [c_8]; decide) (by rw [c_8]; decide) (by rw [c_8]; decide) (by decide) ?_
              refine lv_aload_n hx hb dX12_isFull_111 rfl (lv_at hl 0 rfl) ?_
              refine wd_getR (q := 1107) X hP L1088 fl_X12_64 rfl dX12_isFull_112 ?_
              refine lv_iconst (v := 5) hx hb dX12_isFull_115 (by decide) ?_
              refine wd_ialdK (k := 5) X hP L1107 (by decide) (by decide) dX12_isFull_116 ?_
              refine lv_bipush (v := 6) hx hb dX12_isFull_117 (by decide) ?_
              refine lv_icmp_ne (tgt := 126) hx hb dX12_isFull_119 (by decide) (fun c_9 => ?_) (fun c_9 => ?_)
              · have hf := itF hf c_9
                refine lv_iconst (v := 0) hx hb dX12_isFull_126 (by decide) ?_
                subst hf
                exact wd_zret X hP hS hr0 (by decide) dX12_isFull_127 ⟨rfl, rfl⟩
              · have hf := itT hf c_9
                refine lv_iconst (v := 1) hx hb dX12_isFull_122 (by decide) ?_
                refine lv_goto (tgt := 127) hx hb dX12_isFull_123 (by decide) ?_
                subst hf
                exact wd_zret X hP hS hr0 (by decide) dX12_isFull_127 ⟨rfl, rfl⟩
            · have hf := itF hf c_8
              refine lv_tableOut (tgt := 128) hx hb dX12_isFull_30 (tb_out1_4 c_2 c_4 c_6 c_8) (by decide) ?_
              refine lv_iconst (v := 0) hx hb dX12_isFull_128 (by decide) ?_
              subst hf
              exact wd_zret X hP hS hr0 (by decide) dX12_isFull_129 ⟨rfl, rfl⟩
    · have hf := itF hf c_1
      refine lv_iconst (v := 1) hx hb dX12_isFull_27 (by decide) ?_
      subst hf
      exact wd_zret X hP hS hr0 (by decide) dX12_isFull_28 ⟨rfl, rfl⟩
  have hJ15 : ∀ (y1J_12 : Int32) (y2J_12 : Int32) (z0J_12 : Int32) (H : Heap) (locs : List Loc) (ls : Array Slot), f_X12_isFull_j15 mm y1J_12 y2J_12 z0J_12 = out → Wd D dA bs LY mm H → va_S (Aq bs) s.heap H locs → lv_has ls 3 [(0, .ref (bs + 1088)), (1, .int y1J_12), (2, .int y2J_12)] → Wz p l e s m args below meth c D dA bs (some (.int out)) mm 0 0 H locs 15 ls [.int z0J_12] := by
    intro y1J_12 y2J_12 z0J_12 H locs ls hf hP hS hl
    unfold f_X12_isFull_j15 at hf
    refine lv_iload_n hx hb dX12_isFull_15 rfl (lv_at hl 2 rfl) ?_
    refine lv_if_ne (tgt := 23) hx hb dX12_isFull_16 (by decide) (fun c_11 => ?_) (fun c_11 => ?_)
    · have hf := itF hf c_11
      refine lv_iconst (v := 0) hx hb dX12_isFull_23 (by decide) ?_
      exact hJ24 y1J_12 (0 : Int32) z0J_12 H locs ls hf hP hS (lv_sub hl [0, 1] rfl)
    · have hf := itT hf c_11
      refine lv_iconst (v := 1) hx hb dX12_isFull_19 (by decide) ?_
      refine lv_goto (tgt := 24) hx hb dX12_isFull_20 (by decide) ?_
      exact hJ24 y1J_12 (1 : Int32) z0J_12 H locs ls hf hP hS (lv_sub hl [0, 1] rfl)
  unfold f_X12_isFull at hf
  refine lv_iload_n hx hb dX12_isFull_0 rfl (lv_at hl 2 rfl) ?_
  refine lv_bipush (v := 40) hx hb dX12_isFull_1 (by decide) ?_
  refine lv_icmp_eq (tgt := 27) hx hb dX12_isFull_3 (by decide) (fun c_13 => ?_) (fun c_13 => ?_)
  · have hf := itT hf c_13
    refine lv_iconst (v := 1) hx hb dX12_isFull_27 (by decide) ?_
    subst hf
    exact wd_zret X hP hS hr0 (by decide) dX12_isFull_28 ⟨rfl, rfl⟩
  · have hf := itF hf c_13
    refine lv_iload_n hx hb dX12_isFull_6 rfl (lv_at hl 1 rfl) ?_
    refine lv_if_ne (tgt := 14) hx hb dX12_isFull_7 (by decide) (fun c_14 => ?_) (fun c_14 => ?_)
    · have hf := itF hf c_14
      refine lv_iconst (v := 0) hx hb dX12_isFull_14 (by decide) ?_
      exact hJ15 x1 x2 (0 : Int32) H locs ls hf hP hS (lv_sub hl [0, 1, 2] rfl)
    · have hf := itT hf c_14
      refine lv_iconst (v := 1) hx hb dX12_isFull_10 (by decide) ?_
      refine lv_goto (tgt := 15) hx hb dX12_isFull_11 (by decide) ?_
      exact hJ15 x1 x2 (1 : Int32) H locs ls hf hP hS (lv_sub hl [0, 1, 2] rfl)

noncomputable def f_X12_riverClause_s11 (mm : Mm) (y1 : Int32) (y2 : Int32) : (Int32) → Option ((Int32) ⊕ (Int32)) :=
  fun (y3 : Int32) =>
    if (5 : Int32) ≤ y3 then
      some (.inr y3)
    else
      bi1 (f_X12_stood mm (f_X12_riverWord y3)) fun r_5 =>
        if r_5 = 0 then
          some (.inl (y3 + 1))
        else
          some (.inr y3)
noncomputable def f_X12_riverClause (mm : Mm) (x1 : Int32) : Option (Mm) :=
  bi1 (f_X12_blanks mm) fun mm_1 =>
    bi1 (lp (f_X12_riverClause_s11 mm_1 x1 (mm_1.1 1088 32)) (0 : Int32)) fun w3_8 =>
      if w3_8 = (5 : Int32) then
        bi1 (f_X12_fails mm_1 (0 : Int32) (mm_1.1 1088 32)) fun mm_16 => some mm_16
      else
        if (f_X12_isFull mm_1 w3_8 x1) = 0 then
          vlet (wI mm_1 1088 32 ((mm_1.1 1088 32) + (sLn (f_X12_riverWord w3_8)))) fun mm_11 => bi1 (f_X12_riverPart mm_11 w3_8) fun mm_12 => some mm_12
        else
          bi1 (f_X12_fails mm_1 (4 : Int32) (mm_1.1 1088 32)) fun mm_14 => some mm_14
set_option maxHeartbeats 4000000 in
set_option maxRecDepth 100000 in
theorem c_X12_riverClause (l : Launch) (D : va_G) (dA : Nat → ClassId) (zz : (Nat → Nat) × (Nat → Nat)) (bs : Nat) (mm : Mm) (x1 : Int32) (m1 : Mm) (hf : f_X12_riverClause mm x1 = some m1) : Mw l D dA zz bs LY yX12_riverClause cX12_riverClause 4 none 6 138 [.ref (bs + 1088), .int x1] mm none m1 := by
  refine Mw.of (own := RX12) (by decide) rfl (Nat.le_of_ble_eq_true rfl) ?_
  intro p e s m args below meth c X hr0 hP hS ls hl
  have hx := X.1
  have hb := X.2.1
  obtain ⟨H, hH⟩ : ∃ z : Heap, z = s.heap := ⟨_, rfl⟩
  obtain ⟨locs, hL⟩ : ∃ z : List Loc, z = [] := ⟨_, rfl⟩
  rw [← hH, ← hL]
  have hS : va_S (Aq bs) s.heap H locs := by rw [hH, hL]; exact hS
  have hP : Wd D dA bs LY mm H := by rw [hH]; exact hP
  have hl : lv_has ls 4 [(0, .ref (bs + 1088)), (1, .int x1)] := hl
  unfold f_X12_riverClause at hf
  refine lv_aload_n hx hb dX12_riverClause_0 rfl (lv_at hl 0 rfl) ?_
  obtain ⟨mm_1, hc_2, hf⟩ := bi1S hf
  refine wd_cv X hP hS L1088 ml_X12_235 ⟨_, _, rfl⟩ (c_X12_blanks l D dA zz bs mm mm_1 hc_2) rfl ⟨Nat.le_of_ble_eq_true rfl, Nat.le_of_ble_eq_true rfl⟩ hl.1 rfl (rest := []) (Nat.le_of_ble_eq_true rfl) ⟨Nat.zero_le _, Nat.zero_le _⟩ dX12_riverClause_1 (fun H locs hP hS => ?_)
  refine W.eq (g2 := F0 m 4 ls []) rfl ?_
  refine lv_aload_n hx hb dX12_riverClause_4 rfl (lv_at hl 0 rfl) ?_
  refine wd_getI X hP L1088 fl_X12_215 rfl dX12_riverClause_5 ?_
  refine lv_istore_n (lv' := [(2, .int (mm_1.1 1088 32)), (0, .ref (bs + 1088)), (1, .int x1)]) hx hb dX12_riverClause_8 rfl hl (by decide) rfl (fun ls hl => ?_)
  refine lv_iconst (v := 0) hx hb dX12_riverClause_9 (by decide) ?_
  refine lv_istore_n (lv' := [(3, .int (0 : Int32)), (2, .int (mm_1.1 1088 32)), (0, .ref (bs + 1088)), (1, .int x1)]) hx hb dX12_riverClause_10 rfl hl (by decide) rfl (fun ls hl => ?_)
  obtain ⟨q_18, hlp_19, hf⟩ := bi1S hf
  refine lp_walk (Wh := (fun y3L_7 => ∀ (H : Heap) (locs : List Loc) (ls : Array Slot), Wd D dA bs LY mm_1 H → va_S (Aq bs) s.heap H locs → lv_has ls 4 [(0, .ref (bs + 1088)), (1, .int x1), (2, .int (mm_1.1 1088 32)), (3, .int y3L_7)] → Wz p l e s m args below meth c D dA bs none m1 6 138 H locs 11 ls [])) (Ph := (fun w3_8 => ∀ (H : Heap) (locs : List Loc) (ls : Array Slot), Wd D dA bs LY mm_1 H → va_S (Aq bs) s.heap H locs → lv_has ls 4 [(0, .ref (bs + 1088)), (1, .int x1), (2, .int (mm_1.1 1088 32)), (3, .int w3_8)] → Wz p l e s m args below meth c D dA bs none m1 6 138 H locs 33 ls [])) ?_ hlp_19 ?_ H locs ls hP hS (lv_sub hl [2, 3, 1, 0] rfl)
  · intro y3L_7 o hf hB hE
    intro H locs ls hP hS hl
    have hf : f_X12_riverClause_s11 mm_1 x1 (mm_1.1 1088 32) y3L_7 = some o := hf
    unfold f_X12_riverClause_s11 at hf
    refine lv_iload_n hx hb dX12_riverClause_11 rfl (lv_at hl 3 rfl) ?_
    refine lv_iconst (v := 5) hx hb dX12_riverClause_12 (by decide) ?_
    refine lv_icmp_ge (tgt := 33) hx hb dX12_riverClause_13 (by decide) (fun c_3 => ?_) (fun c_3 => ?_)
    · have hf := itT hf c_3
      obtain rfl := Option.some.inj hf
      exact hE _ rfl H locs ls hP hS (lv_sub hl [0, 1, 2, 3] rfl)
    · have hf := itF hf c_3
      refine lv_aload_n hx hb dX12_riverClause_16 rfl (lv_at hl 0 rfl) ?_
      refine lv_iload_n hx hb dX12_riverClause_17 rfl (lv_at hl 3 rfl) ?_
      refine wd_cs X hP hS ml_X12_334 (c_X12_riverWord l D dA zz bs mm_1 y3L_7 (f_X12_riverWord y3L_7) rfl) rfl ⟨Nat.le_of_ble_eq_true rfl, Nat.le_of_ble_eq_true rfl⟩ hl.1 rfl (rest := [.ref (bs + 1088)]) (Nat.le_of_ble_eq_true rfl) ⟨Nat.zero_le _, Nat.zero_le _⟩ dX12_riverClause_18 (fun H locs hP hS => ?_)
      refine W.eq (g2 := F0 m 21 ls [.ref (zz.1 (f_X12_riverWord y3L_7)), .ref (bs + 1088)]) rfl ?_
      obtain ⟨r_5, hc_4, hf⟩ := bi1S hf
      refine wd_cv X hP hS L1088 ml_X12_238 ⟨_, _, rfl⟩ (c_X12_stood l D dA zz bs mm_1 (f_X12_riverWord y3L_7) (lt_X12_riverWord y3L_7) r_5 hc_4) rfl ⟨Nat.le_of_ble_eq_true rfl, Nat.le_of_ble_eq_true rfl⟩ hl.1 rfl (rest := []) (Nat.le_of_ble_eq_true rfl) ⟨Nat.zero_le _, Nat.zero_le _⟩ dX12_riverClause_21 (fun H locs hP hS => ?_)
      refine W.eq (g2 := F0 m 24 ls [.int r_5]) rfl ?_
      refine lv_if_ne (tgt := 33) hx hb dX12_riverClause_24 (by decide) (fun c_6 => ?_) (fun c_6 => ?_)
      · have hf := itF hf c_6
        obtain rfl := Option.some.inj hf
        exact hE _ rfl H locs ls hP hS (lv_sub hl [0, 1, 2, 3] rfl)
      · have hf := itT hf c_6
        refine lv_iinc (v := (y3L_7 + 1)) (lv' := [(3, .int (y3L_7 + 1)), (0, .ref (bs + 1088)), (1, .int x1), (2, .int (mm_1.1 1088 32))]) hx hb dX12_riverClause_27 hl (k := 3) rfl rfl (by decide) rfl (fun ls hl => ?_)
        refine lv_goto (tgt := 11) hx hb dX12_riverClause_30 (by decide) ?_
        obtain rfl := Option.some.inj hf
        exact hB _ rfl H locs ls hP hS (lv_sub hl [1, 2, 3, 0] rfl)
  · obtain ⟨w3_8, e_w3_8⟩ : ∃ z, z = q_18 := ⟨_, rfl⟩
    subst e_w3_8
    intro H locs ls hP hS hl
    refine lv_iload_n hx hb dX12_riverClause_33 rfl (lv_at hl 3 rfl) ?_
    refine lv_iconst (v := 5) hx hb dX12_riverClause_34 (by decide) ?_
    refine lv_icmp_ne (tgt := 45) hx hb dX12_riverClause_35 (by decide) (fun c_9 => ?_) (fun c_9 => ?_)
    · have hf := itF hf c_9
      refine lv_aload_n hx hb dX12_riverClause_45 rfl (lv_at hl 0 rfl) ?_
      refine lv_iload_n hx hb dX12_riverClause_46 rfl (lv_at hl 3 rfl) ?_
      refine lv_iload_n hx hb dX12_riverClause_47 rfl (lv_at hl 1 rfl) ?_
      refine wd_cv X hP hS L1088 ml_X12_337 ⟨_, _, rfl⟩ (c_X12_isFull l D dA zz bs mm_1 w3_8 x1 (f_X12_isFull mm_1 w3_8 x1) rfl) rfl ⟨Nat.le_of_ble_eq_true rfl, Nat.le_of_ble_eq_true rfl⟩ hl.1 rfl (rest := []) (Nat.le_of_ble_eq_true rfl) ⟨Nat.zero_le _, Nat.zero_le _⟩ dX12_riverClause_48 (fun H locs hP hS => ?_)
      refine W.eq (g2 := F0 m 51 ls [.int (f_X12_isFull mm_1 w3_8 x1)]) rfl ?_
      refine lv_if_eq (tgt := 61) hx hb dX12_riverClause_51 (by decide) (fun c_10 => ?_) (fun c_10 => ?_)
      · have hf := itT hf c_10
        refine lv_aload_n hx hb dX12_riverClause_61 rfl (lv_at hl 0 rfl) ?_
        refine lv_dup hx hb dX12_riverClause_62 rfl ?_
        refine wd_getI X hP L1088 fl_X12_215 rfl dX12_riverClause_63 ?_
        refine lv_iload_n hx hb dX12_riverClause_66 rfl (lv_at hl 3 rfl) ?_
        refine wd_cs X hP hS ml_X12_334 (c_X12_riverWord l D dA zz bs mm_1 w3_8 (f_X12_riverWord w3_8) rfl) rfl ⟨Nat.le_of_ble_eq_true rfl, Nat.le_of_ble_eq_true rfl⟩ hl.1 rfl (rest := [.int (mm_1.1 1088 32), .ref (bs + 1088)]) (Nat.le_of_ble_eq_true rfl) ⟨Nat.zero_le _, Nat.zero_le _⟩ dX12_riverClause_67 (fun H locs hP hS => ?_)
        refine W.eq (g2 := F0 m 70 ls [.ref (zz.1 (f_X12_riverWord w3_8)), .int (mm_1.1 1088 32), .ref (bs + 1088)]) rfl ?_
        refine wd_cr X hP hS (vk_recv X.2.2.2.2.2.2.1.1 (lt_X12_riverWord w3_8) hS) ml_X12_226 (c_length l D dA zz bs mm_1 (lt_X12_riverWord w3_8)) rfl ⟨Nat.le_of_ble_eq_true rfl, Nat.le_of_ble_eq_true rfl⟩ hl.1 rfl (rest := [.int (mm_1.1 1088 32), .ref (bs + 1088)]) (Nat.le_of_ble_eq_true rfl) ⟨Nat.zero_le _, Nat.zero_le _⟩ dX12_riverClause_70 (fun H locs hP hS => ?_)
        refine W.eq (g2 := F0 m 73 ls [.int (sLn (f_X12_riverWord w3_8)), .int (mm_1.1 1088 32), .ref (bs + 1088)]) rfl ?_
        refine lv_iadd hx hb dX12_riverClause_73 ?_
        refine wd_putI X hP hS L1088 fp_X12_215 rfl dX12_riverClause_74 (fun H locs mm_11 emm_11 hP hS => ?_)
        have hf := vl hf emm_11
        refine lv_aload_n hx hb dX12_riverClause_77 rfl (lv_at hl 0 rfl) ?_
        refine lv_iload_n hx hb dX12_riverClause_78 rfl (lv_at hl 3 rfl) ?_
        obtain ⟨mm_12, hc_13, hf⟩ := bi1S hf
        refine wd_cv X hP hS L1088 ml_X12_340 ⟨_, _, rfl⟩ (c_X12_riverPart l D dA zz bs mm_11 w3_8 mm_12 hc_13) rfl ⟨Nat.le_of_ble_eq_true rfl, Nat.le_of_ble_eq_true rfl⟩ hl.1 rfl (rest := []) (Nat.le_of_ble_eq_true rfl) ⟨Nat.zero_le _, Nat.zero_le _⟩ dX12_riverClause_79 (fun H locs hP hS => ?_)
        refine W.eq (g2 := F0 m 82 ls []) rfl ?_
        obtain rfl := Option.some.inj hf
        exact wd_vret X hP hS hr0 dX12_riverClause_82 ⟨rfl, rfl⟩
      · have hf := itF hf c_10
        refine lv_aload_n hx hb dX12_riverClause_54 rfl (lv_at hl 0 rfl) ?_
        refine lv_iconst (v := 4) hx hb dX12_riverClause_55 (by decide) ?_
        refine lv_iload_n hx hb dX12_riverClause_56 rfl (lv_at hl 2 rfl) ?_
        obtain ⟨mm_14, hc_15, hf⟩ := bi1S hf
        refine wd_cv X hP hS L1088 ml_X12_251 ⟨_, _, rfl⟩ (c_X12_fails l D dA zz bs mm_1 (4 : Int32) (mm_1.1 1088 32) mm_14 hc_15) rfl ⟨Nat.le_of_ble_eq_true rfl, Nat.le_of_ble_eq_true rfl⟩ hl.1 rfl (rest := []) (Nat.le_of_ble_eq_true rfl) ⟨Nat.zero_le _, Nat.zero_le _⟩ dX12_riverClause_57 (fun H locs hP hS => ?_)
        refine W.eq (g2 := F0 m 60 ls []) rfl ?_
        obtain rfl := Option.some.inj hf
        exact wd_vret X hP hS hr0 dX12_riverClause_60 ⟨rfl, rfl⟩
    · have hf := itT hf c_9
      refine lv_aload_n hx hb dX12_riverClause_38 rfl (lv_at hl 0 rfl) ?_
      refine lv_iconst (v := 0) hx hb dX12_riverClause_39 (by decide) ?_
      refine lv_iload_n hx hb dX12_riverClause_40 rfl (lv_at hl 2 rfl) ?_
      obtain ⟨mm_16, hc_17, hf⟩ := bi1S hf
      refine wd_cv X hP hS L1088 ml_X12_251 ⟨_, _, rfl⟩ (c_X12_fails l D dA zz bs mm_1 (0 : Int32) (mm_1.1 1088 32) mm_16 hc_17) rfl ⟨Nat.le_of_ble_eq_true rfl, Nat.le_of_ble_eq_true rfl⟩ hl.1 rfl (rest := []) (Nat.le_of_ble_eq_true rfl) ⟨Nat.zero_le _, Nat.zero_le _⟩ dX12_riverClause_41 (fun H locs hP hS => ?_)
      refine W.eq (g2 := F0 m 44 ls []) rfl ?_
      obtain rfl := Option.some.inj hf
      exact wd_vret X hP hS hr0 dX12_riverClause_44 ⟨rfl, rfl⟩

noncomputable def f_X12_copies_s2 (a : Nat) (n : Nat) (b : Nat) (n2 : Nat) : (Int32 × Mm) → Option ((Int32 × Mm) ⊕ (Mm)) :=
  fun q => match q with
  | (y2, mm) =>
    if (Int32.ofNat n) ≤ y2 then
      some (.inr mm)
    else
      if y2 < 0 ∨ n ≤ y2.toNatClampNeg then none else
        if y2 < 0 ∨ n2 ≤ y2.toNatClampNeg then none else
          vlet (wI mm b y2.toNatClampNeg (mm.1 a y2.toNatClampNeg)) fun mm_3 => some (.inl ((y2 + 1), mm_3))
noncomputable def f_X12_copies (mm : Mm) (a : Nat) (n : Nat) (b : Nat) (n2 : Nat) : Option (Mm) :=
  bi1 (lp (f_X12_copies_s2 a n b n2) ((0 : Int32), mm)) fun mm_6 =>
    some mm_6
set_option maxHeartbeats 4000000 in
set_option maxRecDepth 100000 in
theorem c_X12_copies (l : Launch) (D : va_G) (dA : Nat → ClassId) (zz : (Nat → Nat) × (Nat → Nat)) (bs : Nat) (mm : Mm) (a : Nat) (n : Nat) (b : Nat) (n2 : Nat) (ha : LY[a]? = some (.inr (0, n, ng))) (hb2 : LY[b]? = some (.inr (0, n2, ng))) (m1 : Mm) (hf : f_X12_copies mm a n b n2 = some m1) : Mw l D dA zz bs LY yX12_copies cX12_copies 3 none 0 0 [.ref (bs + a), .ref (bs + b)] mm none m1 := by
  refine Mw.of (own := RX12) (by decide) rfl (Nat.le_of_ble_eq_true rfl) ?_
  intro p e s m args below meth c X hr0 hP hS ls hl
  have hx := X.1
  have hb := X.2.1
  obtain ⟨H, hH⟩ : ∃ z : Heap, z = s.heap := ⟨_, rfl⟩
  obtain ⟨locs, hL⟩ : ∃ z : List Loc, z = [] := ⟨_, rfl⟩
  rw [← hH, ← hL]
  have hS : va_S (Aq bs) s.heap H locs := by rw [hH, hL]; exact hS
  have hP : Wd D dA bs LY mm H := by rw [hH]; exact hP
  have hl : lv_has ls 3 [(0, .ref (bs + a)), (1, .ref (bs + b))] := hl
  unfold f_X12_copies at hf
  refine lv_iconst (v := 0) hx hb dX12_copies_0 (by decide) ?_
  refine lv_istore_n (lv' := [(2, .int (0 : Int32)), (0, .ref (bs + a)), (1, .ref (bs + b))]) hx hb dX12_copies_1 rfl hl (by decide) rfl (fun ls hl => ?_)
  obtain ⟨q_7, hlp_8, hf⟩ := bi1S hf
  refine lp_walk (Wh := (fun z => match z with | (y2L_5, mmL_5) => ∀ (H : Heap) (locs : List Loc) (ls : Array Slot), Wd D dA bs LY mmL_5 H → va_S (Aq bs) s.heap H locs → lv_has ls 3 [(0, .ref (bs + a)), (1, .ref (bs + b)), (2, .int y2L_5)] → Wz p l e s m args below meth c D dA bs none m1 0 0 H locs 2 ls [])) (Ph := (fun mm_6 => ∀ (H : Heap) (locs : List Loc) (ls : Array Slot), Wd D dA bs LY mm_6 H → va_S (Aq bs) s.heap H locs → lv_has ls 3 [] → Wz p l e s m args below meth c D dA bs none m1 0 0 H locs 20 ls [])) ?_ hlp_8 ?_ H locs ls hP hS (lv_sub hl [1, 2, 0] rfl)
  · intro z o hf hB hE
    obtain ⟨y2L_5, mmL_5⟩ := z
    intro H locs ls hP hS hl
    have hf : f_X12_copies_s2 a n b n2 (y2L_5, mmL_5) = some o := hf
    unfold f_X12_copies_s2 at hf
    dsimp only at hf
    refine lv_iload_n hx hb dX12_copies_2 rfl (lv_at hl 2 rfl) ?_
    refine lv_aload_n hx hb dX12_copies_3 rfl (lv_at hl 0 rfl) ?_
    refine wd_alen X hP ha rfl rfl dX12_copies_4 ?_
    refine lv_icmp_ge (tgt := 20) hx hb dX12_copies_5 (by decide) (fun c_1 => ?_) (fun c_1 => ?_)
    · have hf := itT hf c_1
      obtain rfl := Option.some.inj hf
      exact hE _ rfl H locs ls hP hS (lv_sub hl [] rfl)
    · have hf := itF hf c_1
      refine lv_aload_n hx hb dX12_copies_8 rfl (lv_at hl 1 rfl) ?_
      refine lv_iload_n hx hb dX12_copies_9 rfl (lv_at hl 2 rfl) ?_
      refine lv_aload_n hx hb dX12_copies_10 rfl (lv_at hl 0 rfl) ?_
      refine lv_iload_n hx hb dX12_copies_11 rfl (lv_at hl 2 rfl) ?_
      have g_2 := gdN hf
      have hf := gdK hf
      refine wd_iald X hP ha g_2 dX12_copies_12 ?_
      have g_4 := gdN hf
      have hf := gdK hf
      refine wd_iast X hP hS hb2 g_4 dX12_copies_13 (fun H locs mm_3 emm_3 hP hS => ?_)
      have hf := vl hf emm_3
      refine lv_iinc (v := (y2L_5 + 1)) (lv' := [(2, .int (y2L_5 + 1)), (0, .ref (bs + a)), (1, .ref (bs + b))]) hx hb dX12_copies_14 hl (k := 2) rfl rfl (by decide) rfl (fun ls hl => ?_)
      refine lv_goto (tgt := 2) hx hb dX12_copies_17 (by decide) ?_
      obtain rfl := Option.some.inj hf
      exact hB _ rfl H locs ls hP hS (lv_sub hl [1, 2, 0] rfl)
  · obtain ⟨mm_6, e_mm_6⟩ : ∃ z, z = q_7 := ⟨_, rfl⟩
    subst e_mm_6
    intro H locs ls hP hS hl
    obtain rfl := Option.some.inj hf
    exact wd_vret X hP hS hr0 dX12_copies_20 ⟨rfl, rfl⟩

noncomputable def f_X12_goesOn_j63 (mm : Mm) (z0 : Int32) : Option (Int32 × Mm) :=
  vlet (wI mm 1088 32 ((mm.1 1088 32) + (1 : Int32))) fun mm_1 => if ¬ z0 = 0 ∧ ¬ z0 = 1 then none else some (z0, mm_1)
noncomputable def f_X12_goesOn_j62 (mm : Mm) : Option (Int32 × Mm) :=
  f_X12_goesOn_j63 mm (0 : Int32)
noncomputable def f_X12_goesOn_j40 (mm : Mm) : Option (Int32 × Mm) :=
  if (mm.1 1088 33) = 0 then
    if (mm.1 1088 31) ≤ (mm.1 1088 32) then
      f_X12_goesOn_j62 mm
    else
      f_X12_goesOn_j63 mm (1 : Int32)
  else
    f_X12_goesOn_j62 mm
noncomputable def f_X12_goesOn (mm : Mm) : Option (Int32 × Mm) :=
  bi1 (f_X12_blanks mm) fun mm_8 =>
    if (mm_8.1 1088 33) = 0 then
      if (mm_8.1 1088 31) ≤ (mm_8.1 1088 32) then
        f_X12_goesOn_j40 mm_8
      else
        bi1 (f_X12_sign mm_8) fun r_13 =>
          if r_13 = (59 : Int32) then
            f_X12_goesOn_j40 mm_8
          else
            bi1 (f_X12_fails mm_8 (0 : Int32) (mm_8.1 1088 32)) fun mm_15 => f_X12_goesOn_j40 mm_15
    else
      f_X12_goesOn_j40 mm_8
set_option maxHeartbeats 4000000 in
set_option maxRecDepth 100000 in
theorem c_X12_goesOn (l : Launch) (D : va_G) (dA : Nat → ClassId) (zz : (Nat → Nat) × (Nat → Nat)) (bs : Nat) (mm : Mm) (out : Int32) (m1 : Mm) (hf : f_X12_goesOn mm = some (out, m1)) : Mw l D dA zz bs LY yX12_goesOn cX12_goesOn 2 (some .boolean) 2 40 [.ref (bs + 1088)] mm (some (.int out)) m1 := by
  refine Mw.of (own := RX12) (by decide) rfl (Nat.le_of_ble_eq_true rfl) ?_
  intro p e s m args below meth c X hr0 hP hS ls hl
  have hx := X.1
  have hb := X.2.1
  obtain ⟨H, hH⟩ : ∃ z : Heap, z = s.heap := ⟨_, rfl⟩
  obtain ⟨locs, hL⟩ : ∃ z : List Loc, z = [] := ⟨_, rfl⟩
  rw [← hH, ← hL]
  have hS : va_S (Aq bs) s.heap H locs := by rw [hH, hL]; exact hS
  have hP : Wd D dA bs LY mm H := by rw [hH]; exact hP
  have hl : lv_has ls 2 [(0, .ref (bs + 1088))] := hl
  have hJ63 : ∀ (mmJ_3 : Mm) (z0J_3 : Int32) (H : Heap) (locs : List Loc) (ls : Array Slot), f_X12_goesOn_j63 mmJ_3 z0J_3 = some (out, m1) → Wd D dA bs LY mmJ_3 H → va_S (Aq bs) s.heap H locs → lv_has ls 2 [(0, .ref (bs + 1088))] → Wz p l e s m args below meth c D dA bs (some (.int out)) m1 2 40 H locs 63 ls [.int z0J_3] := by
    intro mmJ_3 z0J_3 H locs ls hf hP hS hl
    unfold f_X12_goesOn_j63 at hf
    refine lv_istore_n (lv' := [(1, .int z0J_3), (0, .ref (bs + 1088))]) hx hb dX12_goesOn_63 rfl hl (by decide) rfl (fun ls hl => ?_)
    refine lv_aload_n hx hb dX12_goesOn_64 rfl (lv_at hl 1 rfl) ?_
    refine lv_dup hx hb dX12_goesOn_65 rfl ?_
    refine wd_getI X hP L1088 fl_X12_215 rfl dX12_goesOn_66 ?_
    refine lv_iconst (v := 1) hx hb dX12_goesOn_69 (by decide) ?_
    refine lv_iadd hx hb dX12_goesOn_70 ?_
    refine wd_putI X hP hS L1088 fp_X12_215 rfl dX12_goesOn_71 (fun H locs mm_1 emm_1 hP hS => ?_)
    have hf := vl hf emm_1
    refine lv_iload_n hx hb dX12_goesOn_74 rfl (lv_at hl 0 rfl) ?_
    have g_2 := gdN hf
    have hf := gdK hf
    obtain ⟨rfl, rfl⟩ := Prod.mk.inj (Option.some.inj hf)
    exact wd_zret X hP hS hr0 g_2 dX12_goesOn_75 ⟨rfl, rfl⟩
  have hJ62 : ∀ (mmJ_4 : Mm) (H : Heap) (locs : List Loc) (ls : Array Slot), f_X12_goesOn_j62 mmJ_4 = some (out, m1) → Wd D dA bs LY mmJ_4 H → va_S (Aq bs) s.heap H locs → lv_has ls 2 [(0, .ref (bs + 1088))] → Wz p l e s m args below meth c D dA bs (some (.int out)) m1 2 40 H locs 62 ls [] := by
    intro mmJ_4 H locs ls hf hP hS hl
    unfold f_X12_goesOn_j62 at hf
    refine lv_iconst (v := 0) hx hb dX12_goesOn_62 (by decide) ?_
    exact hJ63 mmJ_4 (0 : Int32) H locs ls hf hP hS (lv_sub hl [0] rfl)
  have hJ40 : ∀ (mmJ_7 : Mm) (H : Heap) (locs : List Loc) (ls : Array Slot), f_X12_goesOn_j40 mmJ_7 = some (out, m1) → Wd D dA bs LY mmJ_7 H → va_S (Aq bs) s.heap H locs → lv_has ls 2 [(0, .ref (bs + 1088))] → Wz p l e s m args below meth c D dA bs (some (.int out)) m1 2 40 H locs 40 ls [] := by
    intro mmJ_7 H locs ls hf hP hS hl
    unfold f_X12_goesOn_j40 at hf
    refine lv_aload_n hx hb dX12_goesOn_40 rfl (lv_at hl 0 rfl) ?_
    refine wd_getI X hP L1088 fl_X12_212 rfl dX12_goesOn_41 ?_
    refine lv_if_ne (tgt := 62) hx hb dX12_goesOn_44 (by decide) (fun c_5 => ?_) (fun c_5 => ?_)
    · have hf := itF hf c_5
      exact hJ62 mmJ_7 H locs ls hf hP hS (lv_sub hl [0] rfl)
    · have hf := itT hf c_5
      refine lv_aload_n hx hb dX12_goesOn_47 rfl (lv_at hl 0 rfl) ?_
      refine wd_getI X hP L1088 fl_X12_215 rfl dX12_goesOn_48 ?_
      refine lv_aload_n hx hb dX12_goesOn_51 rfl (lv_at hl 0 rfl) ?_
      refine wd_getI X hP L1088 fl_X12_184 rfl dX12_goesOn_52 ?_
      refine lv_icmp_ge (tgt := 62) hx hb dX12_goesOn_55 (by decide) (fun c_6 => ?_) (fun c_6 => ?_)
      · have hf := itT hf c_6
        exact hJ62 mmJ_7 H locs ls hf hP hS (lv_sub hl [0] rfl)
      · have hf := itF hf c_6
        refine lv_iconst (v := 1) hx hb dX12_goesOn_58 (by decide) ?_
        refine lv_goto (tgt := 63) hx hb dX12_goesOn_59 (by decide) ?_
        exact hJ63 mmJ_7 (1 : Int32) H locs ls hf hP hS (lv_sub hl [0] rfl)
  unfold f_X12_goesOn at hf
  refine lv_aload_n hx hb dX12_goesOn_0 rfl (lv_at hl 0 rfl) ?_
  obtain ⟨mm_8, hc_9, hf⟩ := bi1S hf
  refine wd_cv X hP hS L1088 ml_X12_235 ⟨_, _, rfl⟩ (c_X12_blanks l D dA zz bs mm mm_8 hc_9) rfl ⟨Nat.le_of_ble_eq_true rfl, Nat.le_of_ble_eq_true rfl⟩ hl.1 rfl (rest := []) (Nat.le_of_ble_eq_true rfl) ⟨Nat.zero_le _, Nat.zero_le _⟩ dX12_goesOn_1 (fun H locs hP hS => ?_)
  refine W.eq (g2 := F0 m 4 ls []) rfl ?_
  refine lv_aload_n hx hb dX12_goesOn_4 rfl (lv_at hl 0 rfl) ?_
  refine wd_getI X hP L1088 fl_X12_212 rfl dX12_goesOn_5 ?_
  refine lv_if_ne (tgt := 40) hx hb dX12_goesOn_8 (by decide) (fun c_10 => ?_) (fun c_10 => ?_)
  · have hf := itF hf c_10
    exact hJ40 mm_8 H locs ls hf hP hS (lv_sub hl [0] rfl)
  · have hf := itT hf c_10
    refine lv_aload_n hx hb dX12_goesOn_11 rfl (lv_at hl 0 rfl) ?_
    refine wd_getI X hP L1088 fl_X12_215 rfl dX12_goesOn_12 ?_
    refine lv_aload_n hx hb dX12_goesOn_15 rfl (lv_at hl 0 rfl) ?_
    refine wd_getI X hP L1088 fl_X12_184 rfl dX12_goesOn_16 ?_
    refine lv_icmp_ge (tgt := 40) hx hb dX12_goesOn_19 (by decide) (fun c_11 => ?_) (fun c_11 => ?_)
    · have hf := itT hf c_11
      exact hJ40 mm_8 H locs ls hf hP hS (lv_sub hl [0] rfl)
    · have hf := itF hf c_11
      refine lv_aload_n hx hb dX12_goesOn_22 rfl (lv_at hl 0 rfl) ?_
      obtain ⟨r_13, hc_12, hf⟩ := bi1S hf
      refine wd_cv X hP hS L1088 ml_X12_218 ⟨_, _, rfl⟩ (c_X12_sign l D dA zz bs mm_8 r_13 hc_12) rfl ⟨Nat.le_of_ble_eq_true rfl, Nat.le_of_ble_eq_true rfl⟩ hl.1 rfl (rest := []) (Nat.le_of_ble_eq_true rfl) ⟨Nat.zero_le _, Nat.zero_le _⟩ dX12_goesOn_23 (fun H locs hP hS => ?_)
      refine W.eq (g2 := F0 m 26 ls [.int r_13]) rfl ?_
      refine lv_bipush (v := 59) hx hb dX12_goesOn_26 (by decide) ?_
      refine lv_icmp_eq (tgt := 40) hx hb dX12_goesOn_28 (by decide) (fun c_14 => ?_) (fun c_14 => ?_)
      · have hf := itT hf c_14
        exact hJ40 mm_8 H locs ls hf hP hS (lv_sub hl [0] rfl)
      · have hf := itF hf c_14
        refine lv_aload_n hx hb dX12_goesOn_31 rfl (lv_at hl 0 rfl) ?_
        refine lv_iconst (v := 0) hx hb dX12_goesOn_32 (by decide) ?_
        refine lv_aload_n hx hb dX12_goesOn_33 rfl (lv_at hl 0 rfl) ?_
        refine wd_getI X hP L1088 fl_X12_215 rfl dX12_goesOn_34 ?_
        obtain ⟨mm_15, hc_16, hf⟩ := bi1S hf
        refine wd_cv X hP hS L1088 ml_X12_251 ⟨_, _, rfl⟩ (c_X12_fails l D dA zz bs mm_8 (0 : Int32) (mm_8.1 1088 32) mm_15 hc_16) rfl ⟨Nat.le_of_ble_eq_true rfl, Nat.le_of_ble_eq_true rfl⟩ hl.1 rfl (rest := []) (Nat.le_of_ble_eq_true rfl) ⟨Nat.zero_le _, Nat.zero_le _⟩ dX12_goesOn_37 (fun H locs hP hS => ?_)
        refine W.eq (g2 := F0 m 40 ls []) rfl ?_
        exact hJ40 mm_15 H locs ls hf hP hS (lv_sub hl [0] rfl)

noncomputable def f_X12_starts (mm : Mm) : Option (Mm) :=
  vlet (wI mm 1088 32 (0 : Int32)) fun mm_1 =>
    vlet (wI mm_1 1088 33 (0 : Int32)) fun mm_2 =>
      vlet (wI mm_2 1088 36 (0 : Int32)) fun mm_3 =>
        vlet (wI mm_3 1088 37 (0 : Int32)) fun mm_4 => vlet (wI mm_4 1088 38 (0 : Int32)) fun mm_5 => some mm_5
set_option maxHeartbeats 4000000 in
set_option maxRecDepth 100000 in
theorem c_X12_starts (l : Launch) (D : va_G) (dA : Nat → ClassId) (zz : (Nat → Nat) × (Nat → Nat)) (bs : Nat) (mm : Mm) (m1 : Mm) (hf : f_X12_starts mm = some m1) : Mw l D dA zz bs LY yX12_starts cX12_starts 1 none 0 0 [.ref (bs + 1088)] mm none m1 := by
  refine Mw.of (own := RX12) (by decide) rfl (Nat.le_of_ble_eq_true rfl) ?_
  intro p e s m args below meth c X hr0 hP hS ls hl
  have hx := X.1
  have hb := X.2.1
  obtain ⟨H, hH⟩ : ∃ z : Heap, z = s.heap := ⟨_, rfl⟩
  obtain ⟨locs, hL⟩ : ∃ z : List Loc, z = [] := ⟨_, rfl⟩
  rw [← hH, ← hL]
  have hS : va_S (Aq bs) s.heap H locs := by rw [hH, hL]; exact hS
  have hP : Wd D dA bs LY mm H := by rw [hH]; exact hP
  have hl : lv_has ls 1 [(0, .ref (bs + 1088))] := hl
  unfold f_X12_starts at hf
  refine lv_aload_n hx hb dX12_starts_0 rfl (lv_at hl 0 rfl) ?_
  refine lv_iconst (v := 0) hx hb dX12_starts_1 (by decide) ?_
  refine wd_putI X hP hS L1088 fp_X12_215 rfl dX12_starts_2 (fun H locs mm_1 emm_1 hP hS => ?_)
  have hf := vl hf emm_1
  refine lv_aload_n hx hb dX12_starts_5 rfl (lv_at hl 0 rfl) ?_
  refine lv_iconst (v := 0) hx hb dX12_starts_6 (by decide) ?_
  refine wd_putI X hP hS L1088 fp_X12_212 rfl dX12_starts_7 (fun H locs mm_2 emm_2 hP hS => ?_)
  have hf := vl hf emm_2
  refine lv_aload_n hx hb dX12_starts_10 rfl (lv_at hl 0 rfl) ?_
  refine lv_iconst (v := 0) hx hb dX12_starts_11 (by decide) ?_
  refine wd_putI X hP hS L1088 fp_X12_245 rfl dX12_starts_12 (fun H locs mm_3 emm_3 hP hS => ?_)
  have hf := vl hf emm_3
  refine lv_aload_n hx hb dX12_starts_15 rfl (lv_at hl 0 rfl) ?_
  refine lv_iconst (v := 0) hx hb dX12_starts_16 (by decide) ?_
  refine wd_putI X hP hS L1088 fp_X12_286 rfl dX12_starts_17 (fun H locs mm_4 emm_4 hP hS => ?_)
  have hf := vl hf emm_4
  refine lv_aload_n hx hb dX12_starts_20 rfl (lv_at hl 0 rfl) ?_
  refine lv_iconst (v := 0) hx hb dX12_starts_21 (by decide) ?_
  refine wd_putI X hP hS L1088 fp_X12_248 rfl dX12_starts_22 (fun H locs mm_5 emm_5 hP hS => ?_)
  have hf := vl hf emm_5
  obtain rfl := Option.some.inj hf
  exact wd_vret X hP hS hr0 dX12_starts_25 ⟨rfl, rfl⟩

noncomputable def f_X12_readsAll_s6  : (Int32 × Mm) → Option ((Int32 × Mm) ⊕ (Mm)) :=
  fun q => match q with
  | (y1, mm) =>
    if (6 : Int32) ≤ y1 then
      some (.inr mm)
    else
      if y1 < 0 ∨ 6 ≤ y1.toNatClampNeg then none else
        vlet (wI mm 1107 y1.toNatClampNeg (0 : Int32)) fun mm_4 => some (.inl ((y1 + 1), mm_4))
noncomputable def f_X12_readsAll_s29  : (Int32 × Int32 × Mm) → Option ((Int32 × Int32 × Mm) ⊕ (Mm)) :=
  fun q => match q with
  | (y1, y2, mm) =>
    if y2 = 0 then
      some (.inr mm)
    else
      bi1 (f_X12_riverClause mm y1) fun mm_9 =>
        bi2 (f_X12_goesOn mm_9) fun r_13 mm_11 => some (.inl ((y1 + 1), r_13, mm_11))
noncomputable def f_X12_readsAll (mm : Mm) : Option (Mm) :=
  bi1 (f_X12_starts mm) fun mm_1 =>
    bi1 (lp (f_X12_readsAll_s6) ((0 : Int32), mm_1)) fun mm_7 =>
      bi1 (lp (f_X12_readsAll_s29) ((0 : Int32), (1 : Int32), mm_7)) fun mm_15 =>
        vlet (wI mm_15 1088 31 (0 : Int32)) fun mm_16 => some mm_16
set_option maxHeartbeats 4000000 in
set_option maxRecDepth 100000 in
theorem c_X12_readsAll (l : Launch) (D : va_G) (dA : Nat → ClassId) (zz : (Nat → Nat) × (Nat → Nat)) (bs : Nat) (mm : Mm) (m1 : Mm) (hf : f_X12_readsAll mm = some m1) : Mw l D dA zz bs LY yX12_readsAll cX12_readsAll 3 none 7 161 [.ref (bs + 1088)] mm none m1 := by
  refine Mw.of (own := RX12) (by decide) rfl (Nat.le_of_ble_eq_true rfl) ?_
  intro p e s m args below meth c X hr0 hP hS ls hl
  have hx := X.1
  have hb := X.2.1
  obtain ⟨H, hH⟩ : ∃ z : Heap, z = s.heap := ⟨_, rfl⟩
  obtain ⟨locs, hL⟩ : ∃ z : List Loc, z = [] := ⟨_, rfl⟩
  rw [← hH, ← hL]
  have hS : va_S (Aq bs) s.heap H locs := by rw [hH, hL]; exact hS
  have hP : Wd D dA bs LY mm H := by rw [hH]; exact hP
  have hl : lv_has ls 3 [(0, .ref (bs + 1088))] := hl
  unfold f_X12_readsAll at hf
  refine lv_aload_n hx hb dX12_readsAll_0 rfl (lv_at hl 0 rfl) ?_
  obtain ⟨mm_1, hc_2, hf⟩ := bi1S hf
  refine wd_cv X hP hS L1088 ml_X12_343 ⟨_, _, rfl⟩ (c_X12_starts l D dA zz bs mm mm_1 hc_2) rfl ⟨Nat.le_of_ble_eq_true rfl, Nat.le_of_ble_eq_true rfl⟩ hl.1 rfl (rest := []) (Nat.le_of_ble_eq_true rfl) ⟨Nat.zero_le _, Nat.zero_le _⟩ dX12_readsAll_1 (fun H locs hP hS => ?_)
  refine W.eq (g2 := F0 m 4 ls []) rfl ?_
  refine lv_iconst (v := 0) hx hb dX12_readsAll_4 (by decide) ?_
  refine lv_istore_n (lv' := [(1, .int (0 : Int32)), (0, .ref (bs + 1088))]) hx hb dX12_readsAll_5 rfl hl (by decide) rfl (fun ls hl => ?_)
  obtain ⟨q_19, hlp_20, hf⟩ := bi1S hf
  refine lp_walk (Wh := (fun z => match z with | (y1L_6, mmL_6) => ∀ (H : Heap) (locs : List Loc) (ls : Array Slot), Wd D dA bs LY mmL_6 H → va_S (Aq bs) s.heap H locs → lv_has ls 3 [(0, .ref (bs + 1088)), (1, .int y1L_6)] → Wz p l e s m args below meth c D dA bs none m1 7 161 H locs 6 ls [])) (Ph := (fun mm_7 => ∀ (H : Heap) (locs : List Loc) (ls : Array Slot), Wd D dA bs LY mm_7 H → va_S (Aq bs) s.heap H locs → lv_has ls 3 [(0, .ref (bs + 1088))] → Wz p l e s m args below meth c D dA bs none m1 7 161 H locs 25 ls [])) ?_ hlp_20 ?_ H locs ls hP hS (lv_sub hl [1, 0] rfl)
  · intro z o hf hB hE
    obtain ⟨y1L_6, mmL_6⟩ := z
    intro H locs ls hP hS hl
    have hf : f_X12_readsAll_s6 (y1L_6, mmL_6) = some o := hf
    unfold f_X12_readsAll_s6 at hf
    dsimp only at hf
    refine lv_iload_n hx hb dX12_readsAll_6 rfl (lv_at hl 1 rfl) ?_
    refine lv_bipush (v := 6) hx hb dX12_readsAll_7 (by decide) ?_
    refine lv_icmp_ge (tgt := 25) hx hb dX12_readsAll_9 (by decide) (fun c_3 => ?_) (fun c_3 => ?_)
    · have hf := itT hf c_3
      obtain rfl := Option.some.inj hf
      exact hE _ rfl H locs ls hP hS (lv_sub hl [0] rfl)
    · have hf := itF hf c_3
      refine lv_aload_n hx hb dX12_readsAll_12 rfl (lv_at hl 0 rfl) ?_
      refine wd_getR (q := 1107) X hP L1088 fl_X12_64 rfl dX12_readsAll_13 ?_
      refine lv_iload_n hx hb dX12_readsAll_16 rfl (lv_at hl 1 rfl) ?_
      refine lv_iconst (v := 0) hx hb dX12_readsAll_17 (by decide) ?_
      have g_5 := gdN hf
      have hf := gdK hf
      refine wd_iast X hP hS L1107 g_5 dX12_readsAll_18 (fun H locs mm_4 emm_4 hP hS => ?_)
      have hf := vl hf emm_4
      refine lv_iinc (v := (y1L_6 + 1)) (lv' := [(1, .int (y1L_6 + 1)), (0, .ref (bs + 1088))]) hx hb dX12_readsAll_19 hl (k := 1) rfl rfl (by decide) rfl (fun ls hl => ?_)
      refine lv_goto (tgt := 6) hx hb dX12_readsAll_22 (by decide) ?_
      obtain rfl := Option.some.inj hf
      exact hB _ rfl H locs ls hP hS (lv_sub hl [1, 0] rfl)
  · obtain ⟨mm_7, e_mm_7⟩ : ∃ z, z = q_19 := ⟨_, rfl⟩
    subst e_mm_7
    intro H locs ls hP hS hl
    refine lv_iconst (v := 0) hx hb dX12_readsAll_25 (by decide) ?_
    refine lv_istore_n (lv' := [(1, .int (0 : Int32)), (0, .ref (bs + 1088))]) hx hb dX12_readsAll_26 rfl hl (by decide) rfl (fun ls hl => ?_)
    refine lv_iconst (v := 1) hx hb dX12_readsAll_27 (by decide) ?_
    refine lv_istore_n (lv' := [(2, .int (1 : Int32)), (1, .int (0 : Int32)), (0, .ref (bs + 1088))]) hx hb dX12_readsAll_28 rfl hl (by decide) rfl (fun ls hl => ?_)
    obtain ⟨q_17, hlp_18, hf⟩ := bi1S hf
    refine lp_walk (Wh := (fun z => match z with | (y1L_14, y2L_14, mmL_14) => ∀ (H : Heap) (locs : List Loc) (ls : Array Slot), Wd D dA bs LY mmL_14 H → va_S (Aq bs) s.heap H locs → lv_has ls 3 [(0, .ref (bs + 1088)), (1, .int y1L_14), (2, .int y2L_14)] → Wz p l e s m args below meth c D dA bs none m1 7 161 H locs 29 ls [])) (Ph := (fun mm_15 => ∀ (H : Heap) (locs : List Loc) (ls : Array Slot), Wd D dA bs LY mm_15 H → va_S (Aq bs) s.heap H locs → lv_has ls 3 [(0, .ref (bs + 1088))] → Wz p l e s m args below meth c D dA bs none m1 7 161 H locs 49 ls [])) ?_ hlp_18 ?_ H locs ls hP hS (lv_sub hl [2, 1, 0] rfl)
    · intro z o hf hB hE
      obtain ⟨y1L_14, y2L_14, mmL_14⟩ := z
      intro H locs ls hP hS hl
      have hf : f_X12_readsAll_s29 (y1L_14, y2L_14, mmL_14) = some o := hf
      unfold f_X12_readsAll_s29 at hf
      dsimp only at hf
      refine lv_iload_n hx hb dX12_readsAll_29 rfl (lv_at hl 2 rfl) ?_
      refine lv_if_eq (tgt := 49) hx hb dX12_readsAll_30 (by decide) (fun c_8 => ?_) (fun c_8 => ?_)
      · have hf := itT hf c_8
        obtain rfl := Option.some.inj hf
        exact hE _ rfl H locs ls hP hS (lv_sub hl [0] rfl)
      · have hf := itF hf c_8
        refine lv_aload_n hx hb dX12_readsAll_33 rfl (lv_at hl 0 rfl) ?_
        refine lv_iload_n hx hb dX12_readsAll_34 rfl (lv_at hl 1 rfl) ?_
        obtain ⟨mm_9, hc_10, hf⟩ := bi1S hf
        refine wd_cv X hP hS L1088 ml_X12_346 ⟨_, _, rfl⟩ (c_X12_riverClause l D dA zz bs mmL_14 y1L_14 mm_9 hc_10) rfl ⟨Nat.le_of_ble_eq_true rfl, Nat.le_of_ble_eq_true rfl⟩ hl.1 rfl (rest := []) (Nat.le_of_ble_eq_true rfl) ⟨Nat.zero_le _, Nat.zero_le _⟩ dX12_readsAll_35 (fun H locs hP hS => ?_)
        refine W.eq (g2 := F0 m 38 ls []) rfl ?_
        refine lv_iinc (v := (y1L_14 + 1)) (lv' := [(1, .int (y1L_14 + 1)), (0, .ref (bs + 1088)), (2, .int y2L_14)]) hx hb dX12_readsAll_38 hl (k := 1) rfl rfl (by decide) rfl (fun ls hl => ?_)
        refine lv_aload_n hx hb dX12_readsAll_41 rfl (lv_at hl 1 rfl) ?_
        obtain ⟨r_13, mm_11, hc_12, hf⟩ := bi2S hf
        refine wd_cv X hP hS L1088 ml_X12_349 ⟨_, _, rfl⟩ (c_X12_goesOn l D dA zz bs mm_9 r_13 mm_11 hc_12) rfl ⟨Nat.le_of_ble_eq_true rfl, Nat.le_of_ble_eq_true rfl⟩ hl.1 rfl (rest := []) (Nat.le_of_ble_eq_true rfl) ⟨Nat.zero_le _, Nat.zero_le _⟩ dX12_readsAll_42 (fun H locs hP hS => ?_)
        refine W.eq (g2 := F0 m 45 ls [.int r_13]) rfl ?_
        refine lv_istore_n (lv' := [(2, .int r_13), (1, .int (y1L_14 + 1)), (0, .ref (bs + 1088))]) hx hb dX12_readsAll_45 rfl hl (by decide) rfl (fun ls hl => ?_)
        refine lv_goto (tgt := 29) hx hb dX12_readsAll_46 (by decide) ?_
        obtain rfl := Option.some.inj hf
        exact hB _ rfl H locs ls hP hS (lv_sub hl [2, 1, 0] rfl)
    · obtain ⟨mm_15, e_mm_15⟩ : ∃ z, z = q_17 := ⟨_, rfl⟩
      subst e_mm_15
      intro H locs ls hP hS hl
      refine lv_aload_n hx hb dX12_readsAll_49 rfl (lv_at hl 0 rfl) ?_
      refine lv_iconst (v := 0) hx hb dX12_readsAll_50 (by decide) ?_
      refine wd_putI X hP hS L1088 fp_X12_184 rfl dX12_readsAll_51 (fun H locs mm_16 emm_16 hP hS => ?_)
      have hf := vl hf emm_16
      obtain rfl := Option.some.inj hf
      exact wd_vret X hP hS hr0 dX12_readsAll_54 ⟨rfl, rfl⟩

noncomputable def f_X12_river_j48 (mm : Mm) (y1 : Int32) (z0 : Int32) (z1 : Int32) : Option ((Int32 × Mm) ⊕ (Mm)) :=
  if z1 < 0 ∨ 9 ≤ z1.toNatClampNeg then none else
    vlet (wI mm 1089 z1.toNatClampNeg z0) fun mm_4 => some (.inl ((y1 + 1), mm_4))
noncomputable def f_X12_river_s21  : (Int32 × Mm) → Option ((Int32 × Mm) ⊕ (Mm)) :=
  fun q => match q with
  | (y1, mm) =>
    if (8 : Int32) ≤ y1 then
      some (.inr mm)
    else
      if (6 : Int32) ≤ y1 then
        f_X12_river_j48 mm y1 (0 : Int32) y1
      else
        if y1 < 0 ∨ 6 ≤ y1.toNatClampNeg then none else f_X12_river_j48 mm y1 (mm.1 1107 y1.toNatClampNeg) y1
noncomputable def f_X12_river_s178  : (Int32 × Mm) → Option ((Int32 × Mm) ⊕ (Mm)) :=
  fun q => match q with
  | (y1, mm) =>
    if (6 : Int32) ≤ y1 then
      some (.inr mm)
    else
      if y1 < 0 ∨ 6 ≤ y1.toNatClampNeg then none else
        vlet (wI mm 1092 y1.toNatClampNeg (0 : Int32)) fun mm_35 => some (.inl ((y1 + 1), mm_35))
noncomputable def f_X12_river_s199  : (Int32 × Mm) → Option ((Int32 × Mm) ⊕ (Mm)) :=
  fun q => match q with
  | (y1, mm) =>
    if (8 : Int32) ≤ y1 then
      some (.inr mm)
    else
      if y1 < 0 ∨ 8 ≤ y1.toNatClampNeg then none else
        vlet (wI mm 1097 y1.toNatClampNeg (0 : Int32)) fun mm_40 =>
          if y1 < 0 ∨ 8 ≤ y1.toNatClampNeg then none else
            vlet (wI mm_40 1098 y1.toNatClampNeg (-2 : Int32)) fun mm_42 => some (.inl ((y1 + 1), mm_42))
noncomputable def f_X12_river (mm : Mm) : Option (Int32 × Mm) :=
  bi1 (f_X12_readsAll mm) fun mm_1 =>
    if (mm_1.1 1088 33) ≤ 0 then
      bi1 (lp (f_X12_river_s21) ((0 : Int32), mm_1)) fun mm_11 =>
        bi1 (f_X12_copies mm_11 1108 6 1090 6) fun mm_12 =>
          bi1 (f_X12_copies mm_12 1109 6 1091 6) fun mm_14 =>
            bi1 (f_X12_copies mm_14 1110 8 1093 8) fun mm_16 =>
              bi1 (f_X12_copies mm_16 1111 8 1094 8) fun mm_18 =>
                bi1 (f_X12_copies mm_18 1112 8 1095 8) fun mm_20 =>
                  bi1 (f_X12_copies mm_20 1113 8 1096 8) fun mm_22 =>
                    bi1 (f_X12_copies mm_22 1114 12 1099 12) fun mm_24 =>
                      bi1 (f_X12_copies mm_24 1115 12 1100 12) fun mm_26 =>
                        bi1 (f_X12_copies mm_26 1116 12 1101 12) fun mm_28 =>
                          bi1 (f_X12_copies mm_28 1117 6 1102 6) fun mm_30 =>
                            bi1 (f_X12_copies mm_30 1118 6 1103 6) fun mm_32 =>
                              bi1 (lp (f_X12_river_s178) ((0 : Int32), mm_32)) fun mm_38 =>
                                bi1 (lp (f_X12_river_s199) ((0 : Int32), mm_38)) fun mm_45 =>
                                  vlet (wI mm_45 1088 55 (0 : Int32)) fun mm_46 => some ((mm_46.1 1089 3), mm_46)
    else
      some (((-2 : Int32) - (mm_1.1 1088 33)), mm_1)
set_option maxHeartbeats 4000000 in
set_option maxRecDepth 100000 in
theorem c_X12_river (l : Launch) (D : va_G) (dA : Nat → ClassId) (zz : (Nat → Nat) × (Nat → Nat)) (bs : Nat) (mm : Mm) (out : Int32) (m1 : Mm) (hf : f_X12_river mm = some (out, m1)) : Mw l D dA zz bs LY yX12_river cX12_river 2 (some .int) 8 183 [.ref (bs + 1088)] mm (some (.int out)) m1 := by
  refine Mw.of (own := RX12) (by decide) rfl (Nat.le_of_ble_eq_true rfl) ?_
  intro p e s m args below meth c X hr0 hP hS ls hl
  have hx := X.1
  have hb := X.2.1
  obtain ⟨H, hH⟩ : ∃ z : Heap, z = s.heap := ⟨_, rfl⟩
  obtain ⟨locs, hL⟩ : ∃ z : List Loc, z = [] := ⟨_, rfl⟩
  rw [← hH, ← hL]
  have hS : va_S (Aq bs) s.heap H locs := by rw [hH, hL]; exact hS
  have hP : Wd D dA bs LY mm H := by rw [hH]; exact hP
  have hl : lv_has ls 2 [(0, .ref (bs + 1088))] := hl
  unfold f_X12_river at hf
  refine lv_aload_n hx hb dX12_river_0 rfl (lv_at hl 0 rfl) ?_
  obtain ⟨mm_1, hc_2, hf⟩ := bi1S hf
  refine wd_cv X hP hS L1088 ml_X12_352 ⟨_, _, rfl⟩ (c_X12_readsAll l D dA zz bs mm mm_1 hc_2) rfl ⟨Nat.le_of_ble_eq_true rfl, Nat.le_of_ble_eq_true rfl⟩ hl.1 rfl (rest := []) (Nat.le_of_ble_eq_true rfl) ⟨Nat.zero_le _, Nat.zero_le _⟩ dX12_river_1 (fun H locs hP hS => ?_)
  refine W.eq (g2 := F0 m 4 ls []) rfl ?_
  refine lv_aload_n hx hb dX12_river_4 rfl (lv_at hl 0 rfl) ?_
  refine wd_getI X hP L1088 fl_X12_212 rfl dX12_river_5 ?_
  refine lv_if_le (tgt := 19) hx hb dX12_river_8 (by decide) (fun c_3 => ?_) (fun c_3 => ?_)
  · have hf := itT hf c_3
    refine lv_iconst (v := 0) hx hb dX12_river_19 (by decide) ?_
    refine lv_istore_n (lv' := [(1, .int (0 : Int32)), (0, .ref (bs + 1088))]) hx hb dX12_river_20 rfl hl (by decide) rfl (fun ls hl => ?_)
    obtain ⟨q_51, hlp_52, hf⟩ := bi1S hf
    refine lp_walk (Wh := (fun z => match z with | (y1L_10, mmL_10) => ∀ (H : Heap) (locs : List Loc) (ls : Array Slot), Wd D dA bs LY mmL_10 H → va_S (Aq bs) s.heap H locs → lv_has ls 2 [(0, .ref (bs + 1088)), (1, .int y1L_10)] → Wz p l e s m args below meth c D dA bs (some (.int out)) m1 8 183 H locs 21 ls [])) (Ph := (fun mm_11 => ∀ (H : Heap) (locs : List Loc) (ls : Array Slot), Wd D dA bs LY mm_11 H → va_S (Aq bs) s.heap H locs → lv_has ls 2 [(0, .ref (bs + 1088))] → Wz p l e s m args below meth c D dA bs (some (.int out)) m1 8 183 H locs 55 ls [])) ?_ hlp_52 ?_ H locs ls hP hS (lv_sub hl [1, 0] rfl)
    · intro z o hf hB hE
      obtain ⟨y1L_10, mmL_10⟩ := z
      intro H locs ls hP hS hl
      have hf : f_X12_river_s21 (y1L_10, mmL_10) = some o := hf
      unfold f_X12_river_s21 at hf
      dsimp only at hf
      have hJ48 : ∀ (mmJ_6 : Mm) (y1J_6 : Int32) (z0J_6 : Int32) (z1J_6 : Int32) (H : Heap) (locs : List Loc) (ls : Array Slot), f_X12_river_j48 mmJ_6 y1J_6 z0J_6 z1J_6 = some o → Wd D dA bs LY mmJ_6 H → va_S (Aq bs) s.heap H locs → lv_has ls 2 [(0, .ref (bs + 1088)), (1, .int y1J_6)] → Wz p l e s m args below meth c D dA bs (some (.int out)) m1 8 183 H locs 48 ls [.int z0J_6, .int z1J_6, .ref (bs + 1089)] := by
        intro mmJ_6 y1J_6 z0J_6 z1J_6 H locs ls hf hP hS hl
        unfold f_X12_river_j48 at hf
        have g_5 := gdN hf
        have hf := gdK hf
        refine wd_iast X hP hS L1089 g_5 dX12_river_48 (fun H locs mm_4 emm_4 hP hS => ?_)
        have hf := vl hf emm_4
        refine lv_iinc (v := (y1J_6 + 1)) (lv' := [(1, .int (y1J_6 + 1)), (0, .ref (bs + 1088))]) hx hb dX12_river_49 hl (k := 1) rfl rfl (by decide) rfl (fun ls hl => ?_)
        refine lv_goto (tgt := 21) hx hb dX12_river_52 (by decide) ?_
        obtain rfl := Option.some.inj hf
        exact hB _ rfl H locs ls hP hS (lv_sub hl [1, 0] rfl)
      refine lv_iload_n hx hb dX12_river_21 rfl (lv_at hl 1 rfl) ?_
      refine lv_bipush (v := 8) hx hb dX12_river_22 (by decide) ?_
      refine lv_icmp_ge (tgt := 55) hx hb dX12_river_24 (by decide) (fun c_7 => ?_) (fun c_7 => ?_)
      · have hf := itT hf c_7
        obtain rfl := Option.some.inj hf
        exact hE _ rfl H locs ls hP hS (lv_sub hl [0] rfl)
      · have hf := itF hf c_7
        refine lv_aload_n hx hb dX12_river_27 rfl (lv_at hl 0 rfl) ?_
        refine wd_getR (q := 1089) X hP L1088 fl_X12_9 rfl dX12_river_28 ?_
        refine lv_iload_n hx hb dX12_river_31 rfl (lv_at hl 1 rfl) ?_
        refine lv_iload_n hx hb dX12_river_32 rfl (lv_at hl 1 rfl) ?_
        refine lv_bipush (v := 6) hx hb dX12_river_33 (by decide) ?_
        refine lv_icmp_ge (tgt := 47) hx hb dX12_river_35 (by decide) (fun c_8 => ?_) (fun c_8 => ?_)
        · have hf := itT hf c_8
          refine lv_iconst (v := 0) hx hb dX12_river_47 (by decide) ?_
          exact hJ48 mmL_10 y1L_10 (0 : Int32) y1L_10 H locs ls hf hP hS (lv_sub hl [0, 1] rfl)
        · have hf := itF hf c_8
          refine lv_aload_n hx hb dX12_river_38 rfl (lv_at hl 0 rfl) ?_
          refine wd_getR (q := 1107) X hP L1088 fl_X12_64 rfl dX12_river_39 ?_
          refine lv_iload_n hx hb dX12_river_42 rfl (lv_at hl 1 rfl) ?_
          have g_9 := gdN hf
          have hf := gdK hf
          refine wd_iald X hP L1107 g_9 dX12_river_43 ?_
          refine lv_goto (tgt := 48) hx hb dX12_river_44 (by decide) ?_
          exact hJ48 mmL_10 y1L_10 (mmL_10.1 1107 y1L_10.toNatClampNeg) y1L_10 H locs ls hf hP hS (lv_sub hl [0, 1] rfl)
    · obtain ⟨mm_11, e_mm_11⟩ : ∃ z, z = q_51 := ⟨_, rfl⟩
      subst e_mm_11
      intro H locs ls hP hS hl
      refine lv_aload_n hx hb dX12_river_55 rfl (lv_at hl 0 rfl) ?_
      refine wd_getR (q := 1108) X hP L1088 fl_X12_67 rfl dX12_river_56 ?_
      refine lv_aload_n hx hb dX12_river_59 rfl (lv_at hl 0 rfl) ?_
      refine wd_getR (q := 1090) X hP L1088 fl_X12_13 rfl dX12_river_60 ?_
      obtain ⟨mm_12, hc_13, hf⟩ := bi1S hf
      refine wd_cs X hP hS ml_X12_355 (c_X12_copies l D dA zz bs mm_11 1108 6 1090 6 L1108 L1090 mm_12 hc_13) rfl ⟨Nat.le_of_ble_eq_true rfl, Nat.le_of_ble_eq_true rfl⟩ hl.1 rfl (rest := []) (Nat.le_of_ble_eq_true rfl) ⟨Nat.zero_le _, Nat.zero_le _⟩ dX12_river_63 (fun H locs hP hS => ?_)
      refine W.eq (g2 := F0 m 66 ls []) rfl ?_
      refine lv_aload_n hx hb dX12_river_66 rfl (lv_at hl 0 rfl) ?_
      refine wd_getR (q := 1109) X hP L1088 fl_X12_70 rfl dX12_river_67 ?_
      refine lv_aload_n hx hb dX12_river_70 rfl (lv_at hl 0 rfl) ?_
      refine wd_getR (q := 1091) X hP L1088 fl_X12_16 rfl dX12_river_71 ?_
      obtain ⟨mm_14, hc_15, hf⟩ := bi1S hf
      refine wd_cs X hP hS ml_X12_355 (c_X12_copies l D dA zz bs mm_12 1109 6 1091 6 L1109 L1091 mm_14 hc_15) rfl ⟨Nat.le_of_ble_eq_true rfl, Nat.le_of_ble_eq_true rfl⟩ hl.1 rfl (rest := []) (Nat.le_of_ble_eq_true rfl) ⟨Nat.zero_le _, Nat.zero_le _⟩ dX12_river_74 (fun H locs hP hS => ?_)
      refine W.eq (g2 := F0 m 77 ls []) rfl ?_
      refine lv_aload_n hx hb dX12_river_77 rfl (lv_at hl 0 rfl) ?_
      refine wd_getR (q := 1110) X hP L1088 fl_X12_73 rfl dX12_river_78 ?_
      refine lv_aload_n hx hb dX12_river_81 rfl (lv_at hl 0 rfl) ?_
      refine wd_getR (q := 1093) X hP L1088 fl_X12_22 rfl dX12_river_82 ?_
      obtain ⟨mm_16, hc_17, hf⟩ := bi1S hf
      refine wd_cs X hP hS ml_X12_355 (c_X12_copies l D dA zz bs mm_14 1110 8 1093 8 L1110 L1093 mm_16 hc_17) rfl ⟨Nat.le_of_ble_eq_true rfl, Nat.le_of_ble_eq_true rfl⟩ hl.1 rfl (rest := []) (Nat.le_of_ble_eq_true rfl) ⟨Nat.zero_le _, Nat.zero_le _⟩ dX12_river_85 (fun H locs hP hS => ?_)
      refine W.eq (g2 := F0 m 88 ls []) rfl ?_
      refine lv_aload_n hx hb dX12_river_88 rfl (lv_at hl 0 rfl) ?_
      refine wd_getR (q := 1111) X hP L1088 fl_X12_76 rfl dX12_river_89 ?_
      refine lv_aload_n hx hb dX12_river_92 rfl (lv_at hl 0 rfl) ?_
      refine wd_getR (q := 1094) X hP L1088 fl_X12_25 rfl dX12_river_93 ?_
      obtain ⟨mm_18, hc_19, hf⟩ := bi1S hf
      refine wd_cs X hP hS ml_X12_355 (c_X12_copies l D dA zz bs mm_16 1111 8 1094 8 L1111 L1094 mm_18 hc_19) rfl ⟨Nat.le_of_ble_eq_true rfl, Nat.le_of_ble_eq_true rfl⟩ hl.1 rfl (rest := []) (Nat.le_of_ble_eq_true rfl) ⟨Nat.zero_le _, Nat.zero_le _⟩ dX12_river_96 (fun H locs hP hS => ?_)
      refine W.eq (g2 := F0 m 99 ls []) rfl ?_
      refine lv_aload_n hx hb dX12_river_99 rfl (lv_at hl 0 rfl) ?_
      refine wd_getR (q := 1112) X hP L1088 fl_X12_79 rfl dX12_river_100 ?_
      refine lv_aload_n hx hb dX12_river_103 rfl (lv_at hl 0 rfl) ?_
      refine wd_getR (q := 1095) X hP L1088 fl_X12_28 rfl dX12_river_104 ?_
      obtain ⟨mm_20, hc_21, hf⟩ := bi1S hf
      refine wd_cs X hP hS ml_X12_355 (c_X12_copies l D dA zz bs mm_18 1112 8 1095 8 L1112 L1095 mm_20 hc_21) rfl ⟨Nat.le_of_ble_eq_true rfl, Nat.le_of_ble_eq_true rfl⟩ hl.1 rfl (rest := []) (Nat.le_of_ble_eq_true rfl) ⟨Nat.zero_le _, Nat.zero_le _⟩ dX12_river_107 (fun H locs hP hS => ?_)
      refine W.eq (g2 := F0 m 110 ls []) rfl ?_
      refine lv_aload_n hx hb dX12_river_110 rfl (lv_at hl 0 rfl) ?_
      refine wd_getR (q := 1113) X hP L1088 fl_X12_82 rfl dX12_river_111 ?_
      refine lv_aload_n hx hb dX12_river_114 rfl (lv_at hl 0 rfl) ?_
      refine wd_getR (q := 1096) X hP L1088 fl_X12_31 rfl dX12_river_115 ?_
      obtain ⟨mm_22, hc_23, hf⟩ := bi1S hf
      refine wd_cs X hP hS ml_X12_355 (c_X12_copies l D dA zz bs mm_20 1113 8 1096 8 L1113 L1096 mm_22 hc_23) rfl ⟨Nat.le_of_ble_eq_true rfl, Nat.le_of_ble_eq_true rfl⟩ hl.1 rfl (rest := []) (Nat.le_of_ble_eq_true rfl) ⟨Nat.zero_le _, Nat.zero_le _⟩ dX12_river_118 (fun H locs hP hS => ?_)
      refine W.eq (g2 := F0 m 121 ls []) rfl ?_
      refine lv_aload_n hx hb dX12_river_121 rfl (lv_at hl 0 rfl) ?_
      refine wd_getR (q := 1114) X hP L1088 fl_X12_85 rfl dX12_river_122 ?_
      refine lv_aload_n hx hb dX12_river_125 rfl (lv_at hl 0 rfl) ?_
      refine wd_getR (q := 1099) X hP L1088 fl_X12_40 rfl dX12_river_126 ?_
      obtain ⟨mm_24, hc_25, hf⟩ := bi1S hf
      refine wd_cs X hP hS ml_X12_355 (c_X12_copies l D dA zz bs mm_22 1114 12 1099 12 L1114 L1099 mm_24 hc_25) rfl ⟨Nat.le_of_ble_eq_true rfl, Nat.le_of_ble_eq_true rfl⟩ hl.1 rfl (rest := []) (Nat.le_of_ble_eq_true rfl) ⟨Nat.zero_le _, Nat.zero_le _⟩ dX12_river_129 (fun H locs hP hS => ?_)
      refine W.eq (g2 := F0 m 132 ls []) rfl ?_
      refine lv_aload_n hx hb dX12_river_132 rfl (lv_at hl 0 rfl) ?_
      refine wd_getR (q := 1115) X hP L1088 fl_X12_88 rfl dX12_river_133 ?_
      refine lv_aload_n hx hb dX12_river_136 rfl (lv_at hl 0 rfl) ?_
      refine wd_getR (q := 1100) X hP L1088 fl_X12_43 rfl dX12_river_137 ?_
      obtain ⟨mm_26, hc_27, hf⟩ := bi1S hf
      refine wd_cs X hP hS ml_X12_355 (c_X12_copies l D dA zz bs mm_24 1115 12 1100 12 L1115 L1100 mm_26 hc_27) rfl ⟨Nat.le_of_ble_eq_true rfl, Nat.le_of_ble_eq_true rfl⟩ hl.1 rfl (rest := []) (Nat.le_of_ble_eq_true rfl) ⟨Nat.zero_le _, Nat.zero_le _⟩ dX12_river_140 (fun H locs hP hS => ?_)
      refine W.eq (g2 := F0 m 143 ls []) rfl ?_
      refine lv_aload_n hx hb dX12_river_143 rfl (lv_at hl 0 rfl) ?_
      refine wd_getR (q := 1116) X hP L1088 fl_X12_91 rfl dX12_river_144 ?_
      refine lv_aload_n hx hb dX12_river_147 rfl (lv_at hl 0 rfl) ?_
      refine wd_getR (q := 1101) X hP L1088 fl_X12_46 rfl dX12_river_148 ?_
      obtain ⟨mm_28, hc_29, hf⟩ := bi1S hf
      refine wd_cs X hP hS ml_X12_355 (c_X12_copies l D dA zz bs mm_26 1116 12 1101 12 L1116 L1101 mm_28 hc_29) rfl ⟨Nat.le_of_ble_eq_true rfl, Nat.le_of_ble_eq_true rfl⟩ hl.1 rfl (rest := []) (Nat.le_of_ble_eq_true rfl) ⟨Nat.zero_le _, Nat.zero_le _⟩ dX12_river_151 (fun H locs hP hS => ?_)
      refine W.eq (g2 := F0 m 154 ls []) rfl ?_
      refine lv_aload_n hx hb dX12_river_154 rfl (lv_at hl 0 rfl) ?_
      refine wd_getR (q := 1117) X hP L1088 fl_X12_94 rfl dX12_river_155 ?_
      refine lv_aload_n hx hb dX12_river_158 rfl (lv_at hl 0 rfl) ?_
      refine wd_getR (q := 1102) X hP L1088 fl_X12_49 rfl dX12_river_159 ?_
      obtain ⟨mm_30, hc_31, hf⟩ := bi1S hf
      refine wd_cs X hP hS ml_X12_355 (c_X12_copies l D dA zz bs mm_28 1117 6 1102 6 L1117 L1102 mm_30 hc_31) rfl ⟨Nat.le_of_ble_eq_true rfl, Nat.le_of_ble_eq_true rfl⟩ hl.1 rfl (rest := []) (Nat.le_of_ble_eq_true rfl) ⟨Nat.zero_le _, Nat.zero_le _⟩ dX12_river_162 (fun H locs hP hS => ?_)
      refine W.eq (g2 := F0 m 165 ls []) rfl ?_
      refine lv_aload_n hx hb dX12_river_165 rfl (lv_at hl 0 rfl) ?_
      refine wd_getR (q := 1118) X hP L1088 fl_X12_97 rfl dX12_river_166 ?_
      refine lv_aload_n hx hb dX12_river_169 rfl (lv_at hl 0 rfl) ?_
      refine wd_getR (q := 1103) X hP L1088 fl_X12_52 rfl dX12_river_170 ?_
      obtain ⟨mm_32, hc_33, hf⟩ := bi1S hf
      refine wd_cs X hP hS ml_X12_355 (c_X12_copies l D dA zz bs mm_30 1118 6 1103 6 L1118 L1103 mm_32 hc_33) rfl ⟨Nat.le_of_ble_eq_true rfl, Nat.le_of_ble_eq_true rfl⟩ hl.1 rfl (rest := []) (Nat.le_of_ble_eq_true rfl) ⟨Nat.zero_le _, Nat.zero_le _⟩ dX12_river_173 (fun H locs hP hS => ?_)
      refine W.eq (g2 := F0 m 176 ls []) rfl ?_
      refine lv_iconst (v := 0) hx hb dX12_river_176 (by decide) ?_
      refine lv_istore_n (lv' := [(1, .int (0 : Int32)), (0, .ref (bs + 1088))]) hx hb dX12_river_177 rfl hl (by decide) rfl (fun ls hl => ?_)
      obtain ⟨q_49, hlp_50, hf⟩ := bi1S hf
      refine lp_walk (Wh := (fun z => match z with | (y1L_37, mmL_37) => ∀ (H : Heap) (locs : List Loc) (ls : Array Slot), Wd D dA bs LY mmL_37 H → va_S (Aq bs) s.heap H locs → lv_has ls 2 [(0, .ref (bs + 1088)), (1, .int y1L_37)] → Wz p l e s m args below meth c D dA bs (some (.int out)) m1 8 183 H locs 178 ls [])) (Ph := (fun mm_38 => ∀ (H : Heap) (locs : List Loc) (ls : Array Slot), Wd D dA bs LY mm_38 H → va_S (Aq bs) s.heap H locs → lv_has ls 2 [(0, .ref (bs + 1088))] → Wz p l e s m args below meth c D dA bs (some (.int out)) m1 8 183 H locs 197 ls [])) ?_ hlp_50 ?_ H locs ls hP hS (lv_sub hl [1, 0] rfl)
      · intro z o hf hB hE
        obtain ⟨y1L_37, mmL_37⟩ := z
        intro H locs ls hP hS hl
        have hf : f_X12_river_s178 (y1L_37, mmL_37) = some o := hf
        unfold f_X12_river_s178 at hf
        dsimp only at hf
        refine lv_iload_n hx hb dX12_river_178 rfl (lv_at hl 1 rfl) ?_
        refine lv_bipush (v := 6) hx hb dX12_river_179 (by decide) ?_
        refine lv_icmp_ge (tgt := 197) hx hb dX12_river_181 (by decide) (fun c_34 => ?_) (fun c_34 => ?_)
        · have hf := itT hf c_34
          obtain rfl := Option.some.inj hf
          exact hE _ rfl H locs ls hP hS (lv_sub hl [0] rfl)
        · have hf := itF hf c_34
          refine lv_aload_n hx hb dX12_river_184 rfl (lv_at hl 0 rfl) ?_
          refine wd_getR (q := 1092) X hP L1088 fl_X12_19 rfl dX12_river_185 ?_
          refine lv_iload_n hx hb dX12_river_188 rfl (lv_at hl 1 rfl) ?_
          refine lv_iconst (v := 0) hx hb dX12_river_189 (by decide) ?_
          have g_36 := gdN hf
          have hf := gdK hf
          refine wd_iast X hP hS L1092 g_36 dX12_river_190 (fun H locs mm_35 emm_35 hP hS => ?_)
          have hf := vl hf emm_35
          refine lv_iinc (v := (y1L_37 + 1)) (lv' := [(1, .int (y1L_37 + 1)), (0, .ref (bs + 1088))]) hx hb dX12_river_191 hl (k := 1) rfl rfl (by decide) rfl (fun ls hl => ?_)
          refine lv_goto (tgt := 178) hx hb dX12_river_194 (by decide) ?_
          obtain rfl := Option.some.inj hf
          exact hB _ rfl H locs ls hP hS (lv_sub hl [1, 0] rfl)
      · obtain ⟨mm_38, e_mm_38⟩ : ∃ z, z = q_49 := ⟨_, rfl⟩
        subst e_mm_38
        intro H locs ls hP hS hl
        refine lv_iconst (v := 0) hx hb dX12_river_197 (by decide) ?_
        refine lv_istore_n (lv' := [(1, .int (0 : Int32)), (0, .ref (bs + 1088))]) hx hb dX12_river_198 rfl hl (by decide) rfl (fun ls hl => ?_)
        obtain ⟨q_47, hlp_48, hf⟩ := bi1S hf
        refine lp_walk (Wh := (fun z => match z with | (y1L_44, mmL_44) => ∀ (H : Heap) (locs : List Loc) (ls : Array Slot), Wd D dA bs LY mmL_44 H → va_S (Aq bs) s.heap H locs → lv_has ls 2 [(0, .ref (bs + 1088)), (1, .int y1L_44)] → Wz p l e s m args below meth c D dA bs (some (.int out)) m1 8 183 H locs 199 ls [])) (Ph := (fun mm_45 => ∀ (H : Heap) (locs : List Loc) (ls : Array Slot), Wd D dA bs LY mm_45 H → va_S (Aq bs) s.heap H locs → lv_has ls 2 [(0, .ref (bs + 1088))] → Wz p l e s m args below meth c D dA bs (some (.int out)) m1 8 183 H locs 226 ls [])) ?_ hlp_48 ?_ H locs ls hP hS (lv_sub hl [1, 0] rfl)
        · intro z o hf hB hE
          obtain ⟨y1L_44, mmL_44⟩ := z
          intro H locs ls hP hS hl
          have hf : f_X12_river_s199 (y1L_44, mmL_44) = some o := hf
          unfold f_X12_river_s199 at hf
          dsimp only at hf
          refine lv_iload_n hx hb dX12_river_199 rfl (lv_at hl 1 rfl) ?_
          refine lv_bipush (v := 8) hx hb dX12_river_200 (by decide) ?_
          refine lv_icmp_ge (tgt := 226) hx hb dX12_river_202 (by decide) (fun c_39 => ?_) (fun c_39 => ?_)
          · have hf := itT hf c_39
            obtain rfl := Option.some.inj hf
            exact hE _ rfl H locs ls hP hS (lv_sub hl [0] rfl)
          · have hf := itF hf c_39
            refine lv_aload_n hx hb dX12_river_205 rfl (lv_at hl 0 rfl) ?_
            refine wd_getR (q := 1097) X hP L1088 fl_X12_34 rfl dX12_river_206 ?_
            refine lv_iload_n hx hb dX12_river_209 rfl (lv_at hl 1 rfl) ?_
            refine lv_iconst (v := 0) hx hb dX12_river_210 (by decide) ?_
            have g_41 := gdN hf
            have hf := gdK hf
            refine wd_iast X hP hS L1097 g_41 dX12_river_211 (fun H locs mm_40 emm_40 hP hS => ?_)
            have hf := vl hf emm_40
            refine lv_aload_n hx hb dX12_river_212 rfl (lv_at hl 0 rfl) ?_
            refine wd_getR (q := 1098) X hP L1088 fl_X12_37 rfl dX12_river_213 ?_
            refine lv_iload_n hx hb dX12_river_216 rfl (lv_at hl 1 rfl) ?_
            refine lv_bipush (v := -2) hx hb dX12_river_217 (by decide) ?_
            have g_43 := gdN hf
            have hf := gdK hf
            refine wd_iast X hP hS L1098 g_43 dX12_river_219 (fun H locs mm_42 emm_42 hP hS => ?_)
            have hf := vl hf emm_42
            refine lv_iinc (v := (y1L_44 + 1)) (lv' := [(1, .int (y1L_44 + 1)), (0, .ref (bs + 1088))]) hx hb dX12_river_220 hl (k := 1) rfl rfl (by decide) rfl (fun ls hl => ?_)
            refine lv_goto (tgt := 199) hx hb dX12_river_223 (by decide) ?_
            obtain rfl := Option.some.inj hf
            exact hB _ rfl H locs ls hP hS (lv_sub hl [1, 0] rfl)
        · obtain ⟨mm_45, e_mm_45⟩ : ∃ z, z = q_47 := ⟨_, rfl⟩
          subst e_mm_45
          intro H locs ls hP hS hl
          refine lv_aload_n hx hb dX12_river_226 rfl (lv_at hl 0 rfl) ?_
          refine lv_iconst (v := 0) hx hb dX12_river_227 (by decide) ?_
          refine wd_putI X hP hS L1088 fp_X12_359 rfl dX12_river_228 (fun H locs mm_46 emm_46 hP hS => ?_)
          have hf := vl hf emm_46
          refine lv_aload_n hx hb dX12_river_231 rfl (lv_at hl 0 rfl) ?_
          refine wd_getR (q := 1089) X hP L1088 fl_X12_9 rfl dX12_river_232 ?_
          refine lv_iconst (v := 3) hx hb dX12_river_235 (by decide) ?_
          refine wd_ialdK (k := 3) X hP L1089 (by decide) (by decide) dX12_river_236 ?_
          obtain ⟨rfl, rfl⟩ := Prod.mk.inj (Option.some.inj hf)
          exact wd_iret X hP hS hr0 dX12_river_237 ⟨rfl, rfl⟩
  · have hf := itF hf c_3
    refine lv_bipush (v := -2) hx hb dX12_river_11 (by decide) ?_
    refine lv_aload_n hx hb dX12_river_13 rfl (lv_at hl 0 rfl) ?_
    refine wd_getI X hP L1088 fl_X12_212 rfl dX12_river_14 ?_
    refine lv_isub hx hb dX12_river_17 ?_
    obtain ⟨rfl, rfl⟩ := Prod.mk.inj (Option.some.inj hf)
    exact wd_iret X hP hS hr0 dX12_river_18 ⟨rfl, rfl⟩

noncomputable def f_X12_ruleClause_j104 (mm : Mm) (y3 : Int32) : Option (Mm) :=
  if y3 < 0 ∨ 72 ≤ y3.toNatClampNeg then none else
    vlet (wI mm 1125 y3.toNatClampNeg (mm.1 1088 36)) fun mm_1 => some mm_1
noncomputable def f_X12_ruleClause (mm : Mm) (x1 : Int32) : Option (Mm) :=
  bi1 (f_X12_blanks mm) fun mm_4 =>
    bi1 (f_X12_stood mm_4 1) fun r_7 =>
      if r_7 = 0 then
        bi1 (f_X12_fails mm_4 (0 : Int32) (mm_4.1 1088 32)) fun mm_27 => some mm_27
      else
        if x1 = (12 : Int32) then
          bi1 (f_X12_fails mm_4 (4 : Int32) (mm_4.1 1088 32)) fun mm_25 => some mm_25
        else
          vlet (wI mm_4 1088 32 ((mm_4.1 1088 32) + (3 : Int32))) fun mm_10 =>
            vlet (((12 : Int32) * (mm_10.1 1088 34)) + x1) fun (x3_11 : Int32) =>
              if x3_11 < 0 ∨ 72 ≤ x3_11.toNatClampNeg then none else
                vlet (wI mm_10 1123 x3_11.toNatClampNeg (mm_10.1 1088 36)) fun mm_12 =>
                  bi1 (f_X12_sum mm_12) fun mm_14 =>
                    if x3_11 < 0 ∨ 72 ≤ x3_11.toNatClampNeg then none else
                      vlet (wI mm_14 1124 x3_11.toNatClampNeg (mm_14.1 1088 36)) fun mm_16 =>
                        if (mm_16.1 1088 33) = 0 then
                          bi2 (f_X12_takes mm_16 3) fun r_21 mm_19 =>
                            if r_21 = 0 then
                              f_X12_ruleClause_j104 mm_19 x3_11
                            else
                              bi1 (f_X12_test mm_19) fun mm_23 => f_X12_ruleClause_j104 mm_23 x3_11
                        else
                          f_X12_ruleClause_j104 mm_16 x3_11
set_option maxHeartbeats 4000000 in
set_option maxRecDepth 100000 in
theorem c_X12_ruleClause (l : Launch) (D : va_G) (dA : Nat → ClassId) (zz : (Nat → Nat) × (Nat → Nat)) (bs : Nat) (mm : Mm) (x1 : Int32) (m1 : Mm) (hf : f_X12_ruleClause mm x1 = some m1) : Mw l D dA zz bs LY yX12_ruleClause cX12_ruleClause 4 none 11 239 [.ref (bs + 1088), .int x1] mm none m1 := by
  refine Mw.of (own := RX12) (by decide) rfl (Nat.le_of_ble_eq_true rfl) ?_
  intro p e s m args below meth c X hr0 hP hS ls hl
  have hx := X.1
  have hb := X.2.1
  obtain ⟨H, hH⟩ : ∃ z : Heap, z = s.heap := ⟨_, rfl⟩
  obtain ⟨locs, hL⟩ : ∃ z : List Loc, z = [] := ⟨_, rfl⟩
  rw [← hH, ← hL]
  have hS : va_S (Aq bs) s.heap H locs := by rw [hH, hL]; exact hS
  have hP : Wd D dA bs LY mm H := by rw [hH]; exact hP
  have hl : lv_has ls 4 [(0, .ref (bs + 1088)), (1, .int x1)] := hl
  have hJ104 : ∀ (mmJ_3 : Mm) (y3J_3 : Int32) (H : Heap) (locs : List Loc) (ls : Array Slot), f_X12_ruleClause_j104 mmJ_3 y3J_3 = some m1 → Wd D dA bs LY mmJ_3 H → va_S (Aq bs) s.heap H locs → lv_has ls 4 [(0, .ref (bs + 1088)), (3, .int y3J_3)] → Wz p l e s m args below meth c D dA bs none m1 11 239 H locs 104 ls [] := by
    intro mmJ_3 y3J_3 H locs ls hf hP hS hl
    unfold f_X12_ruleClause_j104 at hf
    refine lv_aload_n hx hb dX12_ruleClause_104 rfl (lv_at hl 0 rfl) ?_
    refine wd_getR (q := 1125) X hP L1088 fl_X12_123 rfl dX12_ruleClause_105 ?_
    refine lv_iload_n hx hb dX12_ruleClause_108 rfl (lv_at hl 1 rfl) ?_
    refine lv_aload_n hx hb dX12_ruleClause_109 rfl (lv_at hl 0 rfl) ?_
    refine wd_getI X hP L1088 fl_X12_245 rfl dX12_ruleClause_110 ?_
    have g_2 := gdN hf
    have hf := gdK hf
    refine wd_iast X hP hS L1125 g_2 dX12_ruleClause_113 (fun H locs mm_1 emm_1 hP hS => ?_)
    have hf := vl hf emm_1
    obtain rfl := Option.some.inj hf
    exact wd_vret X hP hS hr0 dX12_ruleClause_114 ⟨rfl, rfl⟩
  unfold f_X12_ruleClause at hf
  refine lv_aload_n hx hb dX12_ruleClause_0 rfl (lv_at hl 0 rfl) ?_
  obtain ⟨mm_4, hc_5, hf⟩ := bi1S hf
  refine wd_cv X hP hS L1088 ml_X12_235 ⟨_, _, rfl⟩ (c_X12_blanks l D dA zz bs mm mm_4 hc_5) rfl ⟨Nat.le_of_ble_eq_true rfl, Nat.le_of_ble_eq_true rfl⟩ hl.1 rfl (rest := []) (Nat.le_of_ble_eq_true rfl) ⟨Nat.zero_le _, Nat.zero_le _⟩ dX12_ruleClause_1 (fun H locs hP hS => ?_)
  refine W.eq (g2 := F0 m 4 ls []) rfl ?_
  refine lv_aload_n hx hb dX12_ruleClause_4 rfl (lv_at hl 0 rfl) ?_
  refine wd_getI X hP L1088 fl_X12_215 rfl dX12_ruleClause_5 ?_
  refine lv_istore_n (lv' := [(2, .int (mm_4.1 1088 32)), (0, .ref (bs + 1088)), (1, .int x1)]) hx hb dX12_ruleClause_8 rfl hl (by decide) rfl (fun ls hl => ?_)
  refine lv_aload_n hx hb dX12_ruleClause_9 rfl (lv_at hl 1 rfl) ?_
  refine wd_ldcw (own := RX12) (q := zz.1 1) hx hb X.2.2.2.1 (X.2.2.2.2.2.2.1.2.1 ("PartyRaftModel", 362, "tie", 1) (by decide)) dX12_ruleClause_10 ?_
  obtain ⟨r_7, hc_6, hf⟩ := bi1S hf
  refine wd_cv X hP hS L1088 ml_X12_238 ⟨_, _, rfl⟩ (c_X12_stood l D dA zz bs mm_4 1 (by decide) r_7 hc_6) rfl ⟨Nat.le_of_ble_eq_true rfl, Nat.le_of_ble_eq_true rfl⟩ hl.1 rfl (rest := []) (Nat.le_of_ble_eq_true rfl) ⟨Nat.zero_le _, Nat.zero_le _⟩ dX12_ruleClause_13 (fun H locs hP hS => ?_)
  refine W.eq (g2 := F0 m 16 ls [.int r_7]) rfl ?_
  refine lv_if_ne (tgt := 26) hx hb dX12_ruleClause_16 (by decide) (fun c_8 => ?_) (fun c_8 => ?_)
  · have hf := itF hf c_8
    refine lv_iload_n hx hb dX12_ruleClause_26 rfl (lv_at hl 2 rfl) ?_
    refine lv_bipush (v := 12) hx hb dX12_ruleClause_27 (by decide) ?_
    refine lv_icmp_ne (tgt := 39) hx hb dX12_ruleClause_29 (by decide) (fun c_9 => ?_) (fun c_9 => ?_)
    · have hf := itF hf c_9
      refine lv_aload_n hx hb dX12_ruleClause_39 rfl (lv_at hl 1 rfl) ?_
      refine lv_dup hx hb dX12_ruleClause_40 rfl ?_
      refine wd_getI X hP L1088 fl_X12_215 rfl dX12_ruleClause_41 ?_
      refine lv_iconst (v := 3) hx hb dX12_ruleClause_44 (by decide) ?_
      refine lv_iadd hx hb dX12_ruleClause_45 ?_
      refine wd_putI X hP hS L1088 fp_X12_215 rfl dX12_ruleClause_46 (fun H locs mm_10 emm_10 hP hS => ?_)
      have hf := vl hf emm_10
      refine lv_bipush (v := 12) hx hb dX12_ruleClause_49 (by decide) ?_
      refine lv_aload_n hx hb dX12_ruleClause_51 rfl (lv_at hl 1 rfl) ?_
      refine wd_getI X hP L1088 fl_X12_242 rfl dX12_ruleClause_52 ?_
      refine lv_imul hx hb dX12_ruleClause_55 ?_
      refine lv_iload_n hx hb dX12_ruleClause_56 rfl (lv_at hl 2 rfl) ?_
      refine lv_iadd hx hb dX12_ruleClause_57 ?_
      refine lv_topi (fun x3_11 ex3_11 => ?_)
      have hf := vl hf ex3_11
      refine lv_istore_n (lv' := [(3, .int x3_11), (2, .int (mm_4.1 1088 32)), (0, .ref (bs + 1088)), (1, .int x1)]) hx hb dX12_ruleClause_58 rfl hl (by decide) rfl (fun ls hl => ?_)
      refine lv_aload_n hx hb dX12_ruleClause_59 rfl (lv_at hl 2 rfl) ?_
      refine wd_getR (q := 1123) X hP L1088 fl_X12_117 rfl dX12_ruleClause_60 ?_
      refine lv_iload_n hx hb dX12_ruleClause_63 rfl (lv_at hl 0 rfl) ?_
      refine lv_aload_n hx hb dX12_ruleClause_64 rfl (lv_at hl 2 rfl) ?_
      refine wd_getI X hP L1088 fl_X12_245 rfl dX12_ruleClause_65 ?_
      have g_13 := gdN hf
      have hf := gdK hf
      refine wd_iast X hP hS L1123 g_13 dX12_ruleClause_68 (fun H locs mm_12 emm_12 hP hS => ?_)
      have hf := vl hf emm_12
      refine lv_aload_n hx hb dX12_ruleClause_69 rfl (lv_at hl 2 rfl) ?_
      obtain ⟨mm_14, hc_15, hf⟩ := bi1S hf
      refine wd_cv X hP hS L1088 ml_X12_280 ⟨_, _, rfl⟩ (c_X12_sum l D dA zz bs mm_12 mm_14 hc_15) rfl ⟨Nat.le_of_ble_eq_true rfl, Nat.le_of_ble_eq_true rfl⟩ hl.1 rfl (rest := []) (Nat.le_of_ble_eq_true rfl) ⟨Nat.zero_le _, Nat.zero_le _⟩ dX12_ruleClause_70 (fun H locs hP hS => ?_)
      refine W.eq (g2 := F0 m 73 ls []) rfl ?_
      refine lv_aload_n hx hb dX12_ruleClause_73 rfl (lv_at hl 2 rfl) ?_
      refine wd_getR (q := 1124) X hP L1088 fl_X12_120 rfl dX12_ruleClause_74 ?_
      refine lv_iload_n hx hb dX12_ruleClause_77 rfl (lv_at hl 0 rfl) ?_
      refine lv_aload_n hx hb dX12_ruleClause_78 rfl (lv_at hl 2 rfl) ?_
      refine wd_getI X hP L1088 fl_X12_245 rfl dX12_ruleClause_79 ?_
      have g_17 := gdN hf
      have hf := gdK hf
      refine wd_iast X hP hS L1124 g_17 dX12_ruleClause_82 (fun H locs mm_16 emm_16 hP hS => ?_)
      have hf := vl hf emm_16
      refine lv_aload_n hx hb dX12_ruleClause_83 rfl (lv_at hl 2 rfl) ?_
      refine wd_getI X hP L1088 fl_X12_212 rfl dX12_ruleClause_84 ?_
      refine lv_if_ne (tgt := 104) hx hb dX12_ruleClause_87 (by decide) (fun c_18 => ?_) (fun c_18 => ?_)
      · have hf := itF hf c_18
        exact hJ104 mm_16 x3_11 H locs ls hf hP hS (lv_sub hl [2, 0] rfl)
      · have hf := itT hf c_18
        refine lv_aload_n hx hb dX12_ruleClause_90 rfl (lv_at hl 2 rfl) ?_
        refine wd_ldcw (own := RX12) (q := zz.1 3) hx hb X.2.2.2.1 (X.2.2.2.2.2.2.1.2.1 ("PartyRaftModel", 364, "if", 3) (by decide)) dX12_ruleClause_91 ?_
        obtain ⟨r_21, mm_19, hc_20, hf⟩ := bi2S hf
        refine wd_cv X hP hS L1088 ml_X12_366 ⟨_, _, rfl⟩ (c_X12_takes l D dA zz bs mm_16 3 (by decide) r_21 mm_19 hc_20) rfl ⟨Nat.le_of_ble_eq_true rfl, Nat.le_of_ble_eq_true rfl⟩ hl.1 rfl (rest := []) (Nat.le_of_ble_eq_true rfl) ⟨Nat.zero_le _, Nat.zero_le _⟩ dX12_ruleClause_94 (fun H locs hP hS => ?_)
        refine W.eq (g2 := F0 m 97 ls [.int r_21]) rfl ?_
        refine lv_if_eq (tgt := 104) hx hb dX12_ruleClause_97 (by decide) (fun c_22 => ?_) (fun c_22 => ?_)
        · have hf := itT hf c_22
          exact hJ104 mm_19 x3_11 H locs ls hf hP hS (lv_sub hl [2, 0] rfl)
        · have hf := itF hf c_22
          refine lv_aload_n hx hb dX12_ruleClause_100 rfl (lv_at hl 2 rfl) ?_
          obtain ⟨mm_23, hc_24, hf⟩ := bi1S hf
          refine wd_cv X hP hS L1088 ml_X12_369 ⟨_, _, rfl⟩ (c_X12_test l D dA zz bs mm_19 mm_23 hc_24) rfl ⟨Nat.le_of_ble_eq_true rfl, Nat.le_of_ble_eq_true rfl⟩ hl.1 rfl (rest := []) (Nat.le_of_ble_eq_true rfl) ⟨Nat.zero_le _, Nat.zero_le _⟩ dX12_ruleClause_101 (fun H locs hP hS => ?_)
          refine W.eq (g2 := F0 m 104 ls []) rfl ?_
          exact hJ104 mm_23 x3_11 H locs ls hf hP hS (lv_sub hl [2, 0] rfl)
    · have hf := itT hf c_9
      refine lv_aload_n hx hb dX12_ruleClause_32 rfl (lv_at hl 1 rfl) ?_
      refine lv_iconst (v := 4) hx hb dX12_ruleClause_33 (by decide) ?_
      refine lv_iload_n hx hb dX12_ruleClause_34 rfl (lv_at hl 0 rfl) ?_
      obtain ⟨mm_25, hc_26, hf⟩ := bi1S hf
      refine wd_cv X hP hS L1088 ml_X12_251 ⟨_, _, rfl⟩ (c_X12_fails l D dA zz bs mm_4 (4 : Int32) (mm_4.1 1088 32) mm_25 hc_26) rfl ⟨Nat.le_of_ble_eq_true rfl, Nat.le_of_ble_eq_true rfl⟩ hl.1 rfl (rest := []) (Nat.le_of_ble_eq_true rfl) ⟨Nat.zero_le _, Nat.zero_le _⟩ dX12_ruleClause_35 (fun H locs hP hS => ?_)
      refine W.eq (g2 := F0 m 38 ls []) rfl ?_
      obtain rfl := Option.some.inj hf
      exact wd_vret X hP hS hr0 dX12_ruleClause_38 ⟨rfl, rfl⟩
  · have hf := itT hf c_8
    refine lv_aload_n hx hb dX12_ruleClause_19 rfl (lv_at hl 1 rfl) ?_
    refine lv_iconst (v := 0) hx hb dX12_ruleClause_20 (by decide) ?_
    refine lv_iload_n hx hb dX12_ruleClause_21 rfl (lv_at hl 0 rfl) ?_
    obtain ⟨mm_27, hc_28, hf⟩ := bi1S hf
    refine wd_cv X hP hS L1088 ml_X12_251 ⟨_, _, rfl⟩ (c_X12_fails l D dA zz bs mm_4 (0 : Int32) (mm_4.1 1088 32) mm_27 hc_28) rfl ⟨Nat.le_of_ble_eq_true rfl, Nat.le_of_ble_eq_true rfl⟩ hl.1 rfl (rest := []) (Nat.le_of_ble_eq_true rfl) ⟨Nat.zero_le _, Nat.zero_le _⟩ dX12_ruleClause_22 (fun H locs hP hS => ?_)
    refine W.eq (g2 := F0 m 25 ls []) rfl ?_
    obtain rfl := Option.some.inj hf
    exact wd_vret X hP hS hr0 dX12_ruleClause_25 ⟨rfl, rfl⟩

noncomputable def f_X12_rule_j79 (mm : Mm) (z0 : Int32) (z1 : Int32) : Option (Int32 × Mm) :=
  vlet (wI mm 1088 35 (z1 + z0)) fun mm_1 =>
    if (mm_1.1 1088 33) ≤ 0 then
      some (((mm_1.1 1088 35) - (1 : Int32)), mm_1)
    else
      some (((-2 : Int32) - (mm_1.1 1088 33)), mm_1)
noncomputable def f_X12_rule_s27  : (Int32 × Int32 × Mm) → Option ((Int32 × Int32 × Mm) ⊕ (Int32 × Mm)) :=
  fun q => match q with
  | (y1, y2, mm) =>
    if y2 = 0 then
      some (.inr (y1, mm))
    else
      bi1 (f_X12_ruleClause mm y1) fun mm_9 =>
        bi2 (f_X12_goesOn mm_9) fun r_13 mm_11 => some (.inl ((y1 + 1), r_13, mm_11))
noncomputable def f_X12_rule (mm : Mm) : Option (Int32 × Mm) :=
  if (mm.1 1088 35) = (6 : Int32) then
    some ((-1 : Int32), mm)
  else
    vlet (wI mm 1088 34 (mm.1 1088 35)) fun mm_5 =>
      bi1 (f_X12_starts mm_5) fun mm_6 =>
        bi1 (lp (f_X12_rule_s27) ((0 : Int32), (1 : Int32), mm_6)) fun q => match q with
        | (w1_15, mm_16) =>
          vlet (wI mm_16 1088 31 (0 : Int32)) fun mm_17 =>
            if (mm_17.1 1088 34) < 0 ∨ 6 ≤ (mm_17.1 1088 34).toNatClampNeg then none else
              vlet (wI mm_17 1122 (mm_17.1 1088 34).toNatClampNeg w1_15) fun mm_18 =>
                if (mm_18.1 1088 33) = 0 then
                  f_X12_rule_j79 mm_18 (1 : Int32) (mm_18.1 1088 35)
                else
                  f_X12_rule_j79 mm_18 (0 : Int32) (mm_18.1 1088 35)
set_option maxHeartbeats 4000000 in
set_option maxRecDepth 100000 in
theorem c_X12_rule (l : Launch) (D : va_G) (dA : Nat → ClassId) (zz : (Nat → Nat) × (Nat → Nat)) (bs : Nat) (mm : Mm) (out : Int32) (m1 : Mm) (hf : f_X12_rule mm = some (out, m1)) : Mw l D dA zz bs LY yX12_rule cX12_rule 3 (some .int) 12 262 [.ref (bs + 1088)] mm (some (.int out)) m1 := by
  refine Mw.of (own := RX12) (by decide) rfl (Nat.le_of_ble_eq_true rfl) ?_
  intro p e s m args below meth c X hr0 hP hS ls hl
  have hx := X.1
  have hb := X.2.1
  obtain ⟨H, hH⟩ : ∃ z : Heap, z = s.heap := ⟨_, rfl⟩
  obtain ⟨locs, hL⟩ : ∃ z : List Loc, z = [] := ⟨_, rfl⟩
  rw [← hH, ← hL]
  have hS : va_S (Aq bs) s.heap H locs := by rw [hH, hL]; exact hS
  have hP : Wd D dA bs LY mm H := by rw [hH]; exact hP
  have hl : lv_has ls 3 [(0, .ref (bs + 1088))] := hl
  have hJ79 : ∀ (mmJ_3 : Mm) (z0J_3 : Int32) (z1J_3 : Int32) (H : Heap) (locs : List Loc) (ls : Array Slot), f_X12_rule_j79 mmJ_3 z0J_3 z1J_3 = some (out, m1) → Wd D dA bs LY mmJ_3 H → va_S (Aq bs) s.heap H locs → lv_has ls 3 [(0, .ref (bs + 1088))] → Wz p l e s m args below meth c D dA bs (some (.int out)) m1 12 262 H locs 79 ls [.int z0J_3, .int z1J_3, .ref (bs + 1088)] := by
    intro mmJ_3 z0J_3 z1J_3 H locs ls hf hP hS hl
    unfold f_X12_rule_j79 at hf
    refine lv_iadd hx hb dX12_rule_79 ?_
    refine wd_putI X hP hS L1088 fp_X12_372 rfl dX12_rule_80 (fun H locs mm_1 emm_1 hP hS => ?_)
    have hf := vl hf emm_1
    refine lv_aload_n hx hb dX12_rule_83 rfl (lv_at hl 0 rfl) ?_
    refine wd_getI X hP L1088 fl_X12_212 rfl dX12_rule_84 ?_
    refine lv_if_le (tgt := 100) hx hb dX12_rule_87 (by decide) (fun c_2 => ?_) (fun c_2 => ?_)
    · have hf := itT hf c_2
      refine lv_aload_n hx hb dX12_rule_100 rfl (lv_at hl 0 rfl) ?_
      refine wd_getI X hP L1088 fl_X12_372 rfl dX12_rule_101 ?_
      refine lv_iconst (v := 1) hx hb dX12_rule_104 (by decide) ?_
      refine lv_isub hx hb dX12_rule_105 ?_
      obtain ⟨rfl, rfl⟩ := Prod.mk.inj (Option.some.inj hf)
      exact wd_iret X hP hS hr0 dX12_rule_106 ⟨rfl, rfl⟩
    · have hf := itF hf c_2
      refine lv_bipush (v := -2) hx hb dX12_rule_90 (by decide) ?_
      refine lv_aload_n hx hb dX12_rule_92 rfl (lv_at hl 0 rfl) ?_
      refine wd_getI X hP L1088 fl_X12_212 rfl dX12_rule_93 ?_
      refine lv_isub hx hb dX12_rule_96 ?_
      refine lv_goto (tgt := 106) hx hb dX12_rule_97 (by decide) ?_
      obtain ⟨rfl, rfl⟩ := Prod.mk.inj (Option.some.inj hf)
      exact wd_iret X hP hS hr0 dX12_rule_106 ⟨rfl, rfl⟩
  unfold f_X12_rule at hf
  refine lv_aload_n hx hb dX12_rule_0 rfl (lv_at hl 0 rfl) ?_
  refine wd_getI X hP L1088 fl_X12_372 rfl dX12_rule_1 ?_
  refine lv_bipush (v := 6) hx hb dX12_rule_4 (by decide) ?_
  refine lv_icmp_ne (tgt := 11) hx hb dX12_rule_6 (by decide) (fun c_4 => ?_) (fun c_4 => ?_)
  · have hf := itF hf c_4
    refine lv_aload_n hx hb dX12_rule_11 rfl (lv_at hl 0 rfl) ?_
    refine lv_aload_n hx hb dX12_rule_12 rfl (lv_at hl 0 rfl) ?_
    refine wd_getI X hP L1088 fl_X12_372 rfl dX12_rule_13 ?_
    refine wd_putI X hP hS L1088 fp_X12_242 rfl dX12_rule_16 (fun H locs mm_5 emm_5 hP hS => ?_)
    have hf := vl hf emm_5
    refine lv_aload_n hx hb dX12_rule_19 rfl (lv_at hl 0 rfl) ?_
    obtain ⟨mm_6, hc_7, hf⟩ := bi1S hf
    refine wd_cv X hP hS L1088 ml_X12_343 ⟨_, _, rfl⟩ (c_X12_starts l D dA zz bs mm_5 mm_6 hc_7) rfl ⟨Nat.le_of_ble_eq_true rfl, Nat.le_of_ble_eq_true rfl⟩ hl.1 rfl (rest := []) (Nat.le_of_ble_eq_true rfl) ⟨Nat.zero_le _, Nat.zero_le _⟩ dX12_rule_20 (fun H locs hP hS => ?_)
    refine W.eq (g2 := F0 m 23 ls []) rfl ?_
    refine lv_iconst (v := 0) hx hb dX12_rule_23 (by decide) ?_
    refine lv_istore_n (lv' := [(1, .int (0 : Int32)), (0, .ref (bs + 1088))]) hx hb dX12_rule_24 rfl hl (by decide) rfl (fun ls hl => ?_)
    refine lv_iconst (v := 1) hx hb dX12_rule_25 (by decide) ?_
    refine lv_istore_n (lv' := [(2, .int (1 : Int32)), (1, .int (0 : Int32)), (0, .ref (bs + 1088))]) hx hb dX12_rule_26 rfl hl (by decide) rfl (fun ls hl => ?_)
    obtain ⟨q_21, hlp_22, hf⟩ := bi1S hf
    refine lp_walk (Wh := (fun z => match z with | (y1L_14, y2L_14, mmL_14) => ∀ (H : Heap) (locs : List Loc) (ls : Array Slot), Wd D dA bs LY mmL_14 H → va_S (Aq bs) s.heap H locs → lv_has ls 3 [(0, .ref (bs + 1088)), (1, .int y1L_14), (2, .int y2L_14)] → Wz p l e s m args below meth c D dA bs (some (.int out)) m1 12 262 H locs 27 ls [])) (Ph := (fun z => match z with | (w1_15, mm_16) => ∀ (H : Heap) (locs : List Loc) (ls : Array Slot), Wd D dA bs LY mm_16 H → va_S (Aq bs) s.heap H locs → lv_has ls 3 [(0, .ref (bs + 1088)), (1, .int w1_15)] → Wz p l e s m args below meth c D dA bs (some (.int out)) m1 12 262 H locs 47 ls [])) ?_ hlp_22 ?_ H locs ls hP hS (lv_sub hl [2, 1, 0] rfl)
    · intro z o hf hB hE
      obtain ⟨y1L_14, y2L_14, mmL_14⟩ := z
      intro H locs ls hP hS hl
      have hf : f_X12_rule_s27 (y1L_14, y2L_14, mmL_14) = some o := hf
      unfold f_X12_rule_s27 at hf
      dsimp only at hf
      refine lv_iload_n hx hb dX12_rule_27 rfl (lv_at hl 2 rfl) ?_
      refine lv_if_eq (tgt := 47) hx hb dX12_rule_28 (by decide) (fun c_8 => ?_) (fun c_8 => ?_)
      · have hf := itT hf c_8
        obtain rfl := Option.some.inj hf
        exact hE _ rfl H locs ls hP hS (lv_sub hl [0, 1] rfl)
      · have hf := itF hf c_8
        refine lv_aload_n hx hb dX12_rule_31 rfl (lv_at hl 0 rfl) ?_
        refine lv_iload_n hx hb dX12_rule_32 rfl (lv_at hl 1 rfl) ?_
        obtain ⟨mm_9, hc_10, hf⟩ := bi1S hf
        refine wd_cv X hP hS L1088 ml_X12_375 ⟨_, _, rfl⟩ (c_X12_ruleClause l D dA zz bs mmL_14 y1L_14 mm_9 hc_10) rfl ⟨Nat.le_of_ble_eq_true rfl, Nat.le_of_ble_eq_true rfl⟩ hl.1 rfl (rest := []) (Nat.le_of_ble_eq_true rfl) ⟨Nat.zero_le _, Nat.zero_le _⟩ dX12_rule_33 (fun H locs hP hS => ?_)
        refine W.eq (g2 := F0 m 36 ls []) rfl ?_
        refine lv_iinc (v := (y1L_14 + 1)) (lv' := [(1, .int (y1L_14 + 1)), (0, .ref (bs + 1088)), (2, .int y2L_14)]) hx hb dX12_rule_36 hl (k := 1) rfl rfl (by decide) rfl (fun ls hl => ?_)
        refine lv_aload_n hx hb dX12_rule_39 rfl (lv_at hl 1 rfl) ?_
        obtain ⟨r_13, mm_11, hc_12, hf⟩ := bi2S hf
        refine wd_cv X hP hS L1088 ml_X12_349 ⟨_, _, rfl⟩ (c_X12_goesOn l D dA zz bs mm_9 r_13 mm_11 hc_12) rfl ⟨Nat.le_of_ble_eq_true rfl, Nat.le_of_ble_eq_true rfl⟩ hl.1 rfl (rest := []) (Nat.le_of_ble_eq_true rfl) ⟨Nat.zero_le _, Nat.zero_le _⟩ dX12_rule_40 (fun H locs hP hS => ?_)
        refine W.eq (g2 := F0 m 43 ls [.int r_13]) rfl ?_
        refine lv_istore_n (lv' := [(2, .int r_13), (1, .int (y1L_14 + 1)), (0, .ref (bs + 1088))]) hx hb dX12_rule_43 rfl hl (by decide) rfl (fun ls hl => ?_)
        refine lv_goto (tgt := 27) hx hb dX12_rule_44 (by decide) ?_
        obtain rfl := Option.some.inj hf
        exact hB _ rfl H locs ls hP hS (lv_sub hl [2, 1, 0] rfl)
    · obtain ⟨w1_15, mm_16⟩ := q_21
      dsimp only at hf
      intro H locs ls hP hS hl
      refine lv_aload_n hx hb dX12_rule_47 rfl (lv_at hl 0 rfl) ?_
      refine lv_iconst (v := 0) hx hb dX12_rule_48 (by decide) ?_
      refine wd_putI X hP hS L1088 fp_X12_184 rfl dX12_rule_49 (fun H locs mm_17 emm_17 hP hS => ?_)
      have hf := vl hf emm_17
      refine lv_aload_n hx hb dX12_rule_52 rfl (lv_at hl 0 rfl) ?_
      refine wd_getR (q := 1122) X hP L1088 fl_X12_114 rfl dX12_rule_53 ?_
      refine lv_aload_n hx hb dX12_rule_56 rfl (lv_at hl 0 rfl) ?_
      refine wd_getI X hP L1088 fl_X12_242 rfl dX12_rule_57 ?_
      refine lv_iload_n hx hb dX12_rule_60 rfl (lv_at hl 1 rfl) ?_
      have g_19 := gdN hf
      have hf := gdK hf
      refine wd_iast X hP hS L1122 g_19 dX12_rule_61 (fun H locs mm_18 emm_18 hP hS => ?_)
      have hf := vl hf emm_18
      refine lv_aload_n hx hb dX12_rule_62 rfl (lv_at hl 0 rfl) ?_
      refine lv_dup hx hb dX12_rule_63 rfl ?_
      refine wd_getI X hP L1088 fl_X12_372 rfl dX12_rule_64 ?_
      refine lv_aload_n hx hb dX12_rule_67 rfl (lv_at hl 0 rfl) ?_
      refine wd_getI X hP L1088 fl_X12_212 rfl dX12_rule_68 ?_
      refine lv_if_ne (tgt := 78) hx hb dX12_rule_71 (by decide) (fun c_20 => ?_) (fun c_20 => ?_)
      · have hf := itF hf c_20
        refine lv_iconst (v := 0) hx hb dX12_rule_78 (by decide) ?_
        exact hJ79 mm_18 (0 : Int32) (mm_18.1 1088 35) H locs ls hf hP hS (lv_sub hl [0] rfl)
      · have hf := itT hf c_20
        refine lv_iconst (v := 1) hx hb dX12_rule_74 (by decide) ?_
        refine lv_goto (tgt := 79) hx hb dX12_rule_75 (by decide) ?_
        exact hJ79 mm_18 (1 : Int32) (mm_18.1 1088 35) H locs ls hf hP hS (lv_sub hl [0] rfl)
  · have hf := itT hf c_4
    refine lv_iconst (v := -1) hx hb dX12_rule_9 (by decide) ?_
    obtain ⟨rfl, rfl⟩ := Prod.mk.inj (Option.some.inj hf)
    exact wd_iret X hP hS hr0 dX12_rule_10 ⟨rfl, rfl⟩

noncomputable def f_X12_truth (x0 : Int32) : Int64 :=
  if x0 = 0 then
    (0 : Int64)
  else
    (1 : Int64)
set_option maxHeartbeats 4000000 in
set_option maxRecDepth 100000 in
theorem c_X12_truth (l : Launch) (D : va_G) (dA : Nat → ClassId) (zz : (Nat → Nat) × (Nat → Nat)) (bs : Nat) (mm : Mm) (x0 : Int32) (out : Int64) (hf : f_X12_truth x0 = out) : Mw l D dA zz bs LY yX12_truth cX12_truth 1 (some .long) 0 0 [.int x0] mm (some (.long out)) mm := by
  refine Mw.of (own := RX12) (by decide) rfl (Nat.le_of_ble_eq_true rfl) ?_
  intro p e s m args below meth c X hr0 hP hS ls hl
  have hx := X.1
  have hb := X.2.1
  obtain ⟨H, hH⟩ : ∃ z : Heap, z = s.heap := ⟨_, rfl⟩
  obtain ⟨locs, hL⟩ : ∃ z : List Loc, z = [] := ⟨_, rfl⟩
  rw [← hH, ← hL]
  have hS : va_S (Aq bs) s.heap H locs := by rw [hH, hL]; exact hS
  have hP : Wd D dA bs LY mm H := by rw [hH]; exact hP
  have hl : lv_has ls 1 [(0, .int x0)] := hl
  unfold f_X12_truth at hf
  refine lv_iload_n hx hb dX12_truth_0 rfl (lv_at hl 0 rfl) ?_
  refine lv_if_eq (tgt := 8) hx hb dX12_truth_1 (by decide) (fun c_1 => ?_) (fun c_1 => ?_)
  · have hf := itT hf c_1
    refine lv_lconst (v := 0) hx hb dX12_truth_8 (by decide) ?_
    subst hf
    exact wd_lret X hP hS hr0 dX12_truth_9 ⟨rfl, rfl⟩
  · have hf := itF hf c_1
    refine lv_lconst (v := 1) hx hb dX12_truth_4 (by decide) ?_
    refine lv_goto (tgt := 9) hx hb dX12_truth_5 (by decide) ?_
    subst hf
    exact wd_lret X hP hS hr0 dX12_truth_9 ⟨rfl, rfl⟩

noncomputable def f_X12_both_j183 (mm : Mm) (z0 : Int32) : Option (Int64) :=
  some (f_X12_truth z0)
noncomputable def f_X12_both_j168 (mm : Mm) (z0 : Int32) : Option (Int64) :=
  some (f_X12_truth z0)
noncomputable def f_X12_both_j153 (mm : Mm) (z0 : Int32) : Option (Int64) :=
  some (f_X12_truth z0)
noncomputable def f_X12_both_j138 (mm : Mm) (z0 : Int32) : Option (Int64) :=
  some (f_X12_truth z0)
noncomputable def f_X12_both_j123 (mm : Mm) (z0 : Int32) : Option (Int64) :=
  some (f_X12_truth z0)
noncomputable def f_X12_both (mm : Mm) (x0 : Int32) (x1 : Int64) (x3 : Int64) : Option (Int64) :=
  if x0 = 2 then
    some (x1 + x3)
  else if x0 = 3 then
    some (x1 - x3)
  else if x0 = 4 then
    if 0 ≤ (lg_cmp x1 x3) then
      f_X12_both_j123 mm (0 : Int32)
    else
      f_X12_both_j123 mm (1 : Int32)
  else if x0 = 5 then
    if 0 < (lg_cmp x1 x3) then
      f_X12_both_j138 mm (0 : Int32)
    else
      f_X12_both_j138 mm (1 : Int32)
  else if x0 = 6 then
    if (lg_cmp x1 x3) = 0 then
      f_X12_both_j153 mm (1 : Int32)
    else
      f_X12_both_j153 mm (0 : Int32)
  else if x0 = 7 then
    if (lg_cmp x1 x3) < 0 then
      f_X12_both_j168 mm (0 : Int32)
    else
      f_X12_both_j168 mm (1 : Int32)
  else if x0 = 8 then
    if (lg_cmp x1 x3) ≤ 0 then
      f_X12_both_j183 mm (0 : Int32)
    else
      f_X12_both_j183 mm (1 : Int32)
  else if x0 = 9 then
    some (x1 ||| x3)
  else if x0 = 10 then
    some (x1 &&& x3)
  else if x0 = 11 then
    some (x1 ||| x3)
  else if x0 = 12 then
    some (x1 ||| x3)
  else if x0 = 13 then
    some (x1 * x3)
  else if x0 = 14 then
    if (lg_cmp x3 (0 : Int64)) = 0 then
      some (0 : Int64)
    else
      if x3 = 0 then none else some (x1 / x3)
  else if x0 = 15 then
    if (lg_cmp x3 (0 : Int64)) = 0 then
      some (0 : Int64)
    else
      if x3 = 0 then none else some (x1 - x1 / x3 * x3)
  else
    some (x1 ||| x3)
set_option maxHeartbeats 4000000 in
set_option maxRecDepth 100000 in
theorem c_X12_both (l : Launch) (D : va_G) (dA : Nat → ClassId) (zz : (Nat → Nat) × (Nat → Nat)) (bs : Nat) (mm : Mm) (x0 : Int32) (x1 : Int64) (x3 : Int64) (out : Int64) (hf : f_X12_both mm x0 x1 x3 = some out) : Mw l D dA zz bs LY yX12_both cX12_both 5 (some .long) 1 20 [.int x0, .long x1, .long x3] mm (some (.long out)) mm := by
  refine Mw.of (own := RX12) (by decide) rfl (Nat.le_of_ble_eq_true rfl) ?_
  intro p e s m args below meth c X hr0 hP hS ls hl
  have hx := X.1
  have hb := X.2.1
  obtain ⟨H, hH⟩ : ∃ z : Heap, z = s.heap := ⟨_, rfl⟩
  obtain ⟨locs, hL⟩ : ∃ z : List Loc, z = [] := ⟨_, rfl⟩
  rw [← hH, ← hL]
  have hS : va_S (Aq bs) s.heap H locs := by rw [hH, hL]; exact hS
  have hP : Wd D dA bs LY mm H := by rw [hH]; exact hP
  have hl : lv_has ls 5 [(0, .int x0), (1, .long x1), (3, .long x3)] := hl
  have hJ183 : ∀ (z0J_1 : Int32) (H : Heap) (locs : List Loc) (ls : Array Slot), f_X12_both_j183 mm z0J_1 = some out → Wd D dA bs LY mm H → va_S (Aq bs) s.heap H locs → lv_has ls 5 [] → Wz p l e s m args below meth c D dA bs (some (.long out)) mm 1 20 H locs 183 ls [.int z0J_1] := by
    intro z0J_1 H locs ls hf hP hS hl
    unfold f_X12_both_j183 at hf
    refine wd_cs X hP hS ml_X12_382 (c_X12_truth l D dA zz bs mm z0J_1 (f_X12_truth z0J_1) rfl) rfl ⟨Nat.le_of_ble_eq_true rfl, Nat.le_of_ble_eq_true rfl⟩ hl.1 rfl (rest := []) (Nat.le_of_ble_eq_true rfl) ⟨Nat.zero_le _, Nat.zero_le _⟩ dX12_both_183 (fun H locs hP hS => ?_)
    refine W.eq (g2 := F0 m 186 ls [.long (f_X12_truth z0J_1)]) rfl ?_
    obtain rfl := Option.some.inj hf
    exact wd_lret X hP hS hr0 dX12_both_186 ⟨rfl, rfl⟩
  have hJ168 : ∀ (z0J_2 : Int32) (H : Heap) (locs : List Loc) (ls : Array Slot), f_X12_both_j168 mm z0J_2 = some out → Wd D dA bs LY mm H → va_S (Aq bs) s.heap H locs → lv_has ls 5 [] → Wz p l e s m args below meth c D dA bs (some (.long out)) mm 1 20 H locs 168 ls [.int z0J_2] := by
    intro z0J_2 H locs ls hf hP hS hl
    unfold f_X12_both_j168 at hf
    refine wd_cs X hP hS ml_X12_382 (c_X12_truth l D dA zz bs mm z0J_2 (f_X12_truth z0J_2) rfl) rfl ⟨Nat.le_of_ble_eq_true rfl, Nat.le_of_ble_eq_true rfl⟩ hl.1 rfl (rest := []) (Nat.le_of_ble_eq_true rfl) ⟨Nat.zero_le _, Nat.zero_le _⟩ dX12_both_168 (fun H locs hP hS => ?_)
    refine W.eq (g2 := F0 m 171 ls [.long (f_X12_truth z0J_2)]) rfl ?_
    obtain rfl := Option.some.inj hf
    exact wd_lret X hP hS hr0 dX12_both_171 ⟨rfl, rfl⟩
  have hJ153 : ∀ (z0J_3 : Int32) (H : Heap) (locs : List Loc) (ls : Array Slot), f_X12_both_j153 mm z0J_3 = some out → Wd D dA bs LY mm H → va_S (Aq bs) s.heap H locs → lv_has ls 5 [] → Wz p l e s m args below meth c D dA bs (some (.long out)) mm 1 20 H locs 153 ls [.int z0J_3] := by
    intro z0J_3 H locs ls hf hP hS hl
    unfold f_X12_both_j153 at hf
    refine wd_cs X hP hS ml_X12_382 (c_X12_truth l D dA zz bs mm z0J_3 (f_X12_truth z0J_3) rfl) rfl ⟨Nat.le_of_ble_eq_true rfl, Nat.le_of_ble_eq_true rfl⟩ hl.1 rfl (rest := []) (Nat.le_of_ble_eq_true rfl) ⟨Nat.zero_le _, Nat.zero_le _⟩ dX12_both_153 (fun H locs hP hS => ?_)
    refine W.eq (g2 := F0 m 156 ls [.long (f_X12_truth z0J_3)]) rfl ?_
    obtain rfl := Option.some.inj hf
    exact wd_lret X hP hS hr0 dX12_both_156 ⟨rfl, rfl⟩
  have hJ138 : ∀ (z0J_4 : Int32) (H : Heap) (locs : List Loc) (ls : Array Slot), f_X12_both_j138 mm z0J_4 = some out → Wd D dA bs LY mm H → va_S (Aq bs) s.heap H locs → lv_has ls 5 [] → Wz p l e s m args below meth c D dA bs (some (.long out)) mm 1 20 H locs 138 ls [.int z0J_4] := by
    intro z0J_4 H locs ls hf hP hS hl
    unfold f_X12_both_j138 at hf
    refine wd_cs X hP hS ml_X12_382 (c_X12_truth l D dA zz bs mm z0J_4 (f_X12_truth z0J_4) rfl) rfl ⟨Nat.le_of_ble_eq_true rfl, Nat.le_of_ble_eq_true rfl⟩ hl.1 rfl (rest := []) (Nat.le_of_ble_eq_true rfl) ⟨Nat.zero_le _, Nat.zero_le _⟩ dX12_both_138 (fun H locs hP hS => ?_)
    refine W.eq (g2 := F0 m 141 ls [.long (f_X12_truth z0J_4)]) rfl ?_
    obtain rfl := Option.some.inj hf
    exact wd_lret X hP hS hr0 dX12_both_141 ⟨rfl, rfl⟩
  have hJ123 : ∀ (z0J_5 : Int32) (H : Heap) (locs : List Loc) (ls : Array Slot), f_X12_both_j123 mm z0J_5 = some out → Wd D dA bs LY mm H → va_S (Aq bs) s.heap H locs → lv_has ls 5 [] → Wz p l e s m args below meth c D dA bs (some (.long out)) mm 1 20 H locs 123 ls [.int z0J_5] := by
    intro z0J_5 H locs ls hf hP hS hl
    unfold f_X12_both_j123 at hf
    refine wd_cs X hP hS ml_X12_382 (c_X12_truth l D dA zz bs mm z0J_5 (f_X12_truth z0J_5) rfl) rfl ⟨Nat.le_of_ble_eq_true rfl, Nat.le_of_ble_eq_true rfl⟩ hl.1 rfl (rest := []) (Nat.le_of_ble_eq_true rfl) ⟨Nat.zero_le _, Nat.zero_le _⟩ dX12_both_123 (fun H locs hP hS => ?_)
    refine W.eq (g2 := F0 m 126 ls [.long (f_X12_truth z0J_5)]) rfl ?_
    obtain rfl := Option.some.inj hf
    exact wd_lret X hP hS hr0 dX12_both_126 ⟨rfl, rfl⟩
  unfold f_X12_both at hf
  refine lv_iload_n hx hb dX12_both_0 rfl (lv_at hl 0 rfl) ?_
  by_cases c_6 : x0 = 2
  · have hf := itT hf c_6
    refine lv_tableIn (tgt := 72) (off := 71) hx hb dX12_both_1 (by rw [c_6]; decide) (by rw [c_6]; decide) (by rw [c_6]; decide) (by decide) ?_
    refine lv_lload_n hx hb dX12_both_72 rfl (lv_at hl 1 rfl) ?_
    refine lv_lload_n hx hb dX12_both_73 rfl (lv_at hl 2 rfl) ?_
    refine lv_ladd hx hb dX12_both_74 ?_
    obtain rfl := Option.some.inj hf
    exact wd_lret X hP hS hr0 dX12_both_75 ⟨rfl, rfl⟩
  · have hf := itF hf c_6
    by_cases c_7 : x0 = 3
    · have hf := itT hf c_7
      refine lv_tableIn (tgt := 76) (off := 75) hx hb dX12_both_1 (by rw [c_7]; decide) (by rw [c_7]; decide) (by rw [c_7]; decide) (by decide) ?_
      refine lv_lload_n hx hb dX12_both_76 rfl (lv_at hl 1 rfl) ?_
      refine lv_lload_n hx hb dX12_both_77 rfl (lv_at hl 2 rfl) ?_
      refine lv_lsub hx hb dX12_both_78 ?_
      obtain rfl := Option.some.inj hf
      exact wd_lret X hP hS hr0 dX12_both_79 ⟨rfl, rfl⟩
    · have hf := itF hf c_7
      by_cases c_8 : x0 = 4
      · have hf := itT hf c_8
        refine lv_tableIn (tgt := 112) (off := 111) hx hb dX12_both_1 (by rw [c_8]; decide) (by rw [c_8]; decide) (by rw [c_8]; decide) (by decide) ?_
        refine lv_lload_n hx hb dX12_both_112 rfl (lv_at hl 1 rfl) ?_
        refine lv_lload_n hx hb dX12_both_113 rfl (lv_at hl 2 rfl) ?_
        refine W.lcmp hx hb dX12_both_114 ?_
        refine lv_if_ge (tgt := 122) hx hb dX12_both_115 (by decide) (fun c_9 => ?_) (fun c_9 => ?_)
        · have hf := itT hf c_9
          refine lv_iconst (v := 0) hx hb dX12_both_122 (by decide) ?_
          exact hJ123 (0 : Int32) H locs ls hf hP hS (lv_sub hl [] rfl)
        · have hf := itF hf c_9
          refine lv_iconst (v := 1) hx hb dX12_both_118 (by decide) ?_
          refine lv_goto (tgt := 123) hx hb dX12_both_119 (by decide) ?_
          exact hJ123 (1 : Int32) H locs ls hf hP hS (lv_sub hl [] rfl)
      · have hf := itF hf c_8
        by_cases c_10 : x0 = 5
        · have hf := itT hf c_10
          refine lv_tableIn (tgt := 127) (off := 126) hx hb dX12_both_1 (by rw [c_10]; decide) (by rw [c_10]; decide) (by rw [c_10]; decide) (by decide) ?_
          refine lv_lload_n hx hb dX12_both_127 rfl (lv_at hl 1 rfl) ?_
          refine lv_lload_n hx hb dX12_both_128 rfl (lv_at hl 2 rfl) ?_
          refine W.lcmp hx hb dX12_both_129 ?_
          refine lv_if_gt (tgt := 137) hx hb dX12_both_130 (by decide) (fun c_11 => ?_) (fun c_11 => ?_)
          · have hf := itT hf c_11
            refine lv_iconst (v := 0) hx hb dX12_both_137 (by decide) ?_
            exact hJ138 (0 : Int32) H locs ls hf hP hS (lv_sub hl [] rfl)
          · have hf := itF hf c_11
            refine lv_iconst (v := 1) hx hb dX12_both_133 (by decide) ?_
            refine lv_goto (tgt := 138) hx hb dX12_both_134 (by decide) ?_
            exact hJ138 (1 : Int32) H locs ls hf hP hS (lv_sub hl [] rfl)
        · have hf := itF hf c_10
          by_cases c_12 : x0 = 6
          · have hf := itT hf c_12
            refine lv_tableIn (tgt := 142) (off := 141) hx hb dX12_both_1 (by rw [c_12]; decide) (by rw [c_12]; decide) (by rw [c_12]; decide) (by decide) ?_
            refine lv_lload_n hx hb dX12_both_142 rfl (lv_at hl 1 rfl) ?_
            refine lv_lload_n hx hb dX12_both_143 rfl (lv_at hl 2 rfl) ?_
            refine W.lcmp hx hb dX12_both_144 ?_
            refine lv_if_ne (tgt := 152) hx hb dX12_both_145 (by decide) (fun c_13 => ?_) (fun c_13 => ?_)
            · have hf := itF hf c_13
              refine lv_iconst (v := 0) hx hb dX12_both_152 (by decide) ?_
              exact hJ153 (0 : Int32) H locs ls hf hP hS (lv_sub hl [] rfl)
            · have hf := itT hf c_13
              refine lv_iconst (v := 1) hx hb dX12_both_148 (by decide) ?_
              refine lv_goto (tgt := 153) hx hb dX12_both_149 (by decide) ?_
              exact hJ153 (1 : Int32) H locs ls hf hP hS (lv_sub hl [] rfl)
          · have hf := itF hf c_12
            by_cases c_14 : x0 = 7
            · have hf := itT hf c_14
              refine lv_tableIn (tgt := 157) (off := 156) hx hb dX12_both_1 (by rw [c_14]; decide) (by rw [c_14]; decide) (by rw [c_14]; decide) (by decide) ?_
              refine lv_lload_n hx hb dX12_both_157 rfl (lv_at hl 1 rfl) ?_
              refine lv_lload_n hx hb dX12_both_158 rfl (lv_at hl 2 rfl) ?_
              refine W.lcmp hx hb dX12_both_159 ?_
              refine lv_if_lt (tgt := 167) hx hb dX12_both_160 (by decide) (fun c_15 => ?_) (fun c_15 => ?_)
              · have hf := itT hf c_15
                refine lv_iconst (v := 0) hx hb dX12_both_167 (by decide) ?_
                exact hJ168 (0 : Int32) H locs ls hf hP hS (lv_sub hl [] rfl)
              · have hf := itF hf c_15
                refine lv_iconst (v := 1) hx hb dX12_both_163 (by decide) ?_
                refine lv_goto (tgt := 168) hx hb dX12_both_164 (by decide) ?_
                exact hJ168 (1 : Int32) H locs ls hf hP hS (lv_sub hl [] rfl)
            · have hf := itF hf c_14
              by_cases c_16 : x0 = 8
              · have hf := itT hf c_16
                refine lv_tableIn (tgt := 172) (off := 171) hx hb dX12_both_1 (by rw [c_16]; decide) (by rw [c_16]; decide) (by rw [c_16]; decide) (by decide) ?_
                refine lv_lload_n hx hb dX12_both_172 rfl (lv_at hl 1 rfl) ?_
                refine lv_lload_n hx hb dX12_both_173 rfl (lv_at hl 2 rfl) ?_
                refine W.lcmp hx hb dX12_both_174 ?_
                refine lv_if_le (tgt := 182) hx hb dX12_both_175 (by decide) (fun c_17 => ?_) (fun c_17 => ?_)
                · have hf := itT hf c_17
                  refine lv_iconst (v := 0) hx hb dX12_both_182 (by decide) ?_
                  exact hJ183 (0 : Int32) H locs ls hf hP hS (lv_sub hl [] rfl)
                · have hf := itF hf c_17
                  refine lv_iconst (v := 1) hx hb dX12_both_178 (by decide) ?_
                  refine lv_goto (tgt := 183) hx hb dX12_both_179 (by decide) ?_
                  exact hJ183 (1 : Int32) H locs ls hf hP hS (lv_sub hl [] rfl)
              · have hf := itF hf c_16
                by_cases c_18 : x0 = 9
                · have hf := itT hf c_18
                  refine lv_tableIn (tgt := 191) (off := 190) hx hb dX12_both_1 (by rw [c_18]; decide) (by rw [c_18]; decide) (by rw [c_18]; decide) (by decide) ?_
                  refine lv_lload_n hx hb dX12_both_191 rfl (lv_at hl 1 rfl) ?_
                  refine lv_lload_n hx hb dX12_both_192 rfl (lv_at hl 2 rfl) ?_
                  refine lv_lor hx hb dX12_both_193 ?_
                  obtain rfl := Option.some.inj hf
                  exact wd_lret X hP hS hr0 dX12_both_194 ⟨rfl, rfl⟩
                · have hf := itF hf c_18
                  by_cases c_19 : x0 = 10
                  · have hf := itT hf c_19
                    refine lv_tableIn (tgt := 187) (off := 186) hx hb dX12_both_1 (by rw [c_19]; decide) (by rw [c_19]; decide) (by rw [c_19]; decide) (by decide) ?_
                    refine lv_lload_n hx hb dX12_both_187 rfl (lv_at hl 1 rfl) ?_
                    refine lv_lload_n hx hb dX12_both_188 rfl (lv_at hl 2 rfl) ?_
                    refine lv_land hx hb dX12_both_189 ?_
                    obtain rfl := Option.some.inj hf
                    exact wd_lret X hP hS hr0 dX12_both_190 ⟨rfl, rfl⟩
                  · have hf := itF hf c_19
                    by_cases c_20 : x0 = 11
                    · have hf := itT hf c_20
                      refine lv_tableIn (tgt := 191) (off := 190) hx hb dX12_both_1 (by rw [c_20]; decide) (by rw [c_20]; decide) (by rw [c_20]; decide) (by decide) ?_
                      refine lv_lload_n hx hb dX12_both_191 rfl (lv_at hl 1 rfl) ?_
                      refine lv_lload_n hx hb dX12_both_192 rfl (lv_at hl 2 rfl) ?_
                      refine lv_lor hx hb dX12_both_193 ?_
                      obtain rfl := Option.some.inj hf
                      exact wd_lret X hP hS hr0 dX12_both_194 ⟨rfl, rfl⟩
                    · have hf := itF hf c_20
                      by_cases c_21 : x0 = 12
                      · have hf := itT hf c_21
                        refine lv_tableIn (tgt := 191) (off := 190) hx hb dX12_both_1 (by rw [c_21]; decide) (by rw [c_21]; decide) (by rw [c_21]; decide) (by decide) ?_
                        refine lv_lload_n hx hb dX12_both_191 rfl (lv_at hl 1 rfl) ?_
                        refine lv_lload_n hx hb dX12_both_192 rfl (lv_at hl 2 rfl) ?_
                        refine lv_lor hx hb dX12_both_193 ?_
                        obtain rfl := Option.some.inj hf
                        exact wd_lret X hP hS hr0 dX12_both_194 ⟨rfl, rfl⟩
                      · have hf := itF hf c_21
                        by_cases c_22 : x0 = 13
                        · have hf := itT hf c_22
                          refine lv_tableIn (tgt := 80) (off := 79) hx hb dX12_both_1 (by rw [c_22]; decide) (by rw [c_22]; decide) (by rw [c_22]; decide) (by decide) ?_
                          refine lv_lload_n hx hb dX12_both_80 rfl (lv_at hl 1 rfl) ?_
                          refine lv_lload_n hx hb dX12_both_81 rfl (lv_at hl 2 rfl) ?_
                          refine lv_lmul hx hb dX12_both_82 ?_
                          obtain rfl := Option.some.inj hf
                          exact wd_lret X hP hS hr0 dX12_both_83 ⟨rfl, rfl⟩
                        · have hf := itF hf c_22
                          by_cases c_23 : x0 = 14
                          · have hf := itT hf c_23
                            refine lv_tableIn (tgt := 84) (off := 83) hx hb dX12_both_1 (by rw [c_23]; decide) (by rw [c_23]; decide) (by rw [c_23]; decide) (by decide) ?_
                            refine lv_lload_n hx hb dX12_both_84 rfl (lv_at hl 2 rfl) ?_
                            refine lv_lconst (v := 0) hx hb dX12_both_85 (by decide) ?_
                            refine W.lcmp hx hb dX12_both_86 ?_
                            refine lv_if_ne (tgt := 94) hx hb dX12_both_87 (by decide) (fun c_24 => ?_) (fun c_24 => ?_)
                            · have hf := itF hf c_24
                              refine lv_lload_n hx hb dX12_both_94 rfl (lv_at hl 1 rfl) ?_
                              refine lv_lload_n hx hb dX12_both_95 rfl (lv_at hl 2 rfl) ?_
                              have g_25 := gdN hf
                              have hf := gdK hf
                              refine lv_ldiv hx hb dX12_both_96 g_25 ?_
                              obtain rfl := Option.some.inj hf
                              exact wd_lret X hP hS hr0 dX12_both_97 ⟨rfl, rfl⟩
                            · have hf := itT hf c_24
                              refine lv_lconst (v := 0) hx hb dX12_both_90 (by decide) ?_
                              refine lv_goto (tgt := 97) hx hb dX12_both_91 (by decide) ?_
                              obtain rfl := Option.some.inj hf
                              exact wd_lret X hP hS hr0 dX12_both_97 ⟨rfl, rfl⟩
                          · have hf := itF hf c_23
                            by_cases c_26 : x0 = 15
                            · have hf := itT hf c_26
                              refine lv_tableIn (tgt := 98) (off := 97) hx hb dX12_both_1 (by rw [c_26]; decide) (by rw [c_26]; decide) (by rw [c_26]; decide) (by decide) ?_
                              refine lv_lload_n hx hb dX12_both_98 rfl (lv_at hl 2 rfl) ?_
                              refine lv_lconst (v := 0) hx hb dX12_both_99 (by decide) ?_
                              refine W.lcmp hx hb dX12_both_100 ?_
                              refine lv_if_ne (tgt := 108) hx hb dX12_both_101 (by decide) (fun c_27 => ?_) (fun c_27 => ?_)
                              · have hf := itF hf c_27
                                refine lv_lload_n hx hb dX12_both_108 rfl (lv_at hl 1 rfl) ?_
                                refine lv_lload_n hx hb dX12_both_109 rfl (lv_at hl 2 rfl) ?_
                                have g_28 := gdN hf
                                have hf := gdK hf
                                refine lv_lrem hx hb dX12_both_110 g_28 ?_
                                obtain rfl := Option.some.inj hf
                                exact wd_lret X hP hS hr0 dX12_both_111 ⟨rfl, rfl⟩
                              · have hf := itT hf c_27
                                refine lv_lconst (v := 0) hx hb dX12_both_104 (by decide) ?_
                                refine lv_goto (tgt := 111) hx hb dX12_both_105 (by decide) ?_
                                obtain rfl := Option.some.inj hf
                                exact wd_lret X hP hS hr0 dX12_both_111 ⟨rfl, rfl⟩
                            · have hf := itF hf c_26
                              refine lv_tableOut (tgt := 191) hx hb dX12_both_1 (tb_out2_14 c_6 c_7 c_8 c_10 c_12 c_14 c_16 c_18 c_19 c_20 c_21 c_22 c_23 c_26) (by decide) ?_
                              refine lv_lload_n hx hb dX12_both_191 rfl (lv_at hl 1 rfl) ?_
                              refine lv_lload_n hx hb dX12_both_192 rfl (lv_at hl 2 rfl) ?_
                              refine lv_lor hx hb dX12_both_193 ?_
                              obtain rfl := Option.some.inj hf
                              exact wd_lret X hP hS hr0 dX12_both_194 ⟨rfl, rfl⟩

noncomputable def f_X12_answer_j77 (mm : Mm) (y1 : Int32) (y3 : Int32) (y4 : Int32) (y5 : Int32) (z0 : Int64) (z1 : Int32) : Option ((Int32 × Int32 × Mm) ⊕ (Mm)) :=
  if z1 < 0 ∨ 300 ≤ z1.toNatClampNeg then none else
    vlet (wL mm 1128 z1.toNatClampNeg z0) fun mm_1 => some (.inl ((y4 + 1), (y5 + 1), mm_1))
noncomputable def f_X12_answer_j53 (mm : Mm) (y1 : Int32) (y3 : Int32) (y4 : Int32) (y5 : Int32) (y6 : Int32) (y7 : Int32) : Option ((Int32 × Int32 × Mm) ⊕ (Mm)) :=
  if y6 = 0 then
    f_X12_answer_j77 mm y1 y3 y4 y5 (y7.toInt64) y4
  else
    if y7 < 0 ∨ 12 ≤ y7.toNatClampNeg then none else
      f_X12_answer_j77 mm y1 y3 y4 y5 (mm.2 1127 y7.toNatClampNeg) y4
noncomputable def f_X12_answer_s6 (y1 : Int32) (y3 : Int32) : (Int32 × Int32 × Mm) → Option ((Int32 × Int32 × Mm) ⊕ (Mm)) :=
  fun q => match q with
  | (y4, y5, mm) =>
    if y3 ≤ y5 then
      some (.inr mm)
    else
      if (((300 : Int32) * y1) + y5) < 0 ∨ 1800 ≤ (((300 : Int32) * y1) + y5).toNatClampNeg then none else
        vlet (mm.1 1120 (((300 : Int32) * y1) + y5).toNatClampNeg) fun (x6_9 : Int32) =>
          if (((300 : Int32) * y1) + y5) < 0 ∨ 1800 ≤ (((300 : Int32) * y1) + y5).toNatClampNeg then none else
            vlet (mm.1 1121 (((300 : Int32) * y1) + y5).toNatClampNeg) fun (x7_11 : Int32) =>
              if x6_9 = 0 then
                f_X12_answer_j53 mm y1 y3 y4 y5 x6_9 x7_11
              else
                if x6_9 = (1 : Int32) then
                  f_X12_answer_j53 mm y1 y3 y4 y5 x6_9 x7_11
                else
                  if x6_9 = (9 : Int32) then
                    if (y4 - (1 : Int32)) < 0 ∨ 300 ≤ (y4 - (1 : Int32)).toNatClampNeg then none else
                      if (y4 - (1 : Int32)) < 0 ∨ 300 ≤ (y4 - (1 : Int32)).toNatClampNeg then none else
                        vlet (wL mm 1128 (y4 - (1 : Int32)).toNatClampNeg ((1 : Int64) - (mm.2 1128 (y4 - (1 : Int32)).toNatClampNeg))) fun mm_22 => some (.inl (y4, (y5 + 1), mm_22))
                  else
                    if ((y4 + (-1)) - (1 : Int32)) < 0 ∨ 300 ≤ ((y4 + (-1)) - (1 : Int32)).toNatClampNeg then none else
                      if (y4 + (-1)) < 0 ∨ 300 ≤ (y4 + (-1)).toNatClampNeg then none else
                        bi1 (f_X12_both mm x6_9 (mm.2 1128 ((y4 + (-1)) - (1 : Int32)).toNatClampNeg) (mm.2 1128 (y4 + (-1)).toNatClampNeg)) fun r_18 =>
                          if ((y4 + (-1)) - (1 : Int32)) < 0 ∨ 300 ≤ ((y4 + (-1)) - (1 : Int32)).toNatClampNeg then none else
                            vlet (wL mm 1128 ((y4 + (-1)) - (1 : Int32)).toNatClampNeg r_18) fun mm_19 => some (.inl ((y4 + (-1)), (y5 + 1), mm_19))
noncomputable def f_X12_answer (mm : Mm) (x1 : Int32) (x2 : Int32) (x3 : Int32) : Option (Int64 × Mm) :=
  bi1 (lp (f_X12_answer_s6 x1 x3) ((0 : Int32), x2, mm)) fun mm_25 =>
    some ((mm_25.2 1128 0), mm_25)
set_option maxHeartbeats 4000000 in
set_option maxRecDepth 100000 in
theorem c_X12_answer (l : Launch) (D : va_G) (dA : Nat → ClassId) (zz : (Nat → Nat) × (Nat → Nat)) (bs : Nat) (mm : Mm) (x1 : Int32) (x2 : Int32) (x3 : Int32) (out : Int64) (m1 : Mm) (hf : f_X12_answer mm x1 x2 x3 = some (out, m1)) : Mw l D dA zz bs LY yX12_answer cX12_answer 8 (some .long) 2 44 [.ref (bs + 1088), .int x1, .int x2, .int x3] mm (some (.long out)) m1 := by
  refine Mw.of (own := RX12) (by decide) rfl (Nat.le_of_ble_eq_true rfl) ?_
  intro p e s m args below meth c X hr0 hP hS ls hl
  have hx := X.1
  have hb := X.2.1
  obtain ⟨H, hH⟩ : ∃ z : Heap, z = s.heap := ⟨_, rfl⟩
  obtain ⟨locs, hL⟩ : ∃ z : List Loc, z = [] := ⟨_, rfl⟩
  rw [← hH, ← hL]
  have hS : va_S (Aq bs) s.heap H locs := by rw [hH, hL]; exact hS
  have hP : Wd D dA bs LY mm H := by rw [hH]; exact hP
  have hl : lv_has ls 8 [(0, .ref (bs + 1088)), (1, .int x1), (2, .int x2), (3, .int x3)] := hl
  unfold f_X12_answer at hf
  refine lv_iconst (v := 0) hx hb dX12_answer_0 (by decide) ?_
  refine lv_istore (lv' := [(4, .int (0 : Int32)), (0, .ref (bs + 1088)), (1, .int x1), (2, .int x2), (3, .int x3)]) hx hb dX12_answer_1 hl (by decide) rfl (fun ls hl => ?_)
  refine lv_iload_n hx hb dX12_answer_3 rfl (lv_at hl 3 rfl) ?_
  refine lv_istore (lv' := [(5, .int x2), (4, .int (0 : Int32)), (0, .ref (bs + 1088)), (1, .int x1), (2, .int x2), (3, .int x3)]) hx hb dX12_answer_4 hl (by decide) rfl (fun ls hl => ?_)
  obtain ⟨q_26, hlp_27, hf⟩ := bi1S hf
  refine lp_walk (Wh := (fun z => match z with | (y4L_24, y5L_24, mmL_24) => ∀ (H : Heap) (locs : List Loc) (ls : Array Slot), Wd D dA bs LY mmL_24 H → va_S (Aq bs) s.heap H locs → lv_has ls 8 [(0, .ref (bs + 1088)), (1, .int x1), (3, .int x3), (4, .int y4L_24), (5, .int y5L_24)] → Wz p l e s m args below meth c D dA bs (some (.long out)) m1 2 44 H locs 6 ls [])) (Ph := (fun mm_25 => ∀ (H : Heap) (locs : List Loc) (ls : Array Slot), Wd D dA bs LY mm_25 H → va_S (Aq bs) s.heap H locs → lv_has ls 8 [(0, .ref (bs + 1088))] → Wz p l e s m args below meth c D dA bs (some (.long out)) m1 2 44 H locs 153 ls [])) ?_ hlp_27 ?_ H locs ls hP hS (lv_sub hl [2, 3, 5, 1, 0] rfl)
  · intro z o hf hB hE
    obtain ⟨y4L_24, y5L_24, mmL_24⟩ := z
    intro H locs ls hP hS hl
    have hf : f_X12_answer_s6 x1 x3 (y4L_24, y5L_24, mmL_24) = some o := hf
    unfold f_X12_answer_s6 at hf
    dsimp only at hf
    have hJ77 : ∀ (mmJ_3 : Mm) (y4J_3 : Int32) (y5J_3 : Int32) (z0J_3 : Int64) (z1J_3 : Int32) (H : Heap) (locs : List Loc) (ls : Array Slot), f_X12_answer_j77 mmJ_3 x1 x3 y4J_3 y5J_3 z0J_3 z1J_3 = some o → Wd D dA bs LY mmJ_3 H → va_S (Aq bs) s.heap H locs → lv_has ls 8 [(0, .ref (bs + 1088)), (1, .int x1), (3, .int x3), (4, .int y4J_3), (5, .int y5J_3)] → Wz p l e s m args below meth c D dA bs (some (.long out)) m1 2 44 H locs 77 ls [.long z0J_3, .int z1J_3, .ref (bs + 1128)] := by
      intro mmJ_3 y4J_3 y5J_3 z0J_3 z1J_3 H locs ls hf hP hS hl
      unfold f_X12_answer_j77 at hf
      have g_2 := gdN hf
      have hf := gdK hf
      refine wd_last X hP hS L1128 g_2 dX12_answer_77 (fun H locs mm_1 emm_1 hP hS => ?_)
      have hf := vl hf emm_1
      refine lv_iinc (v := (y4J_3 + 1)) (lv' := [(4, .int (y4J_3 + 1)), (0, .ref (bs + 1088)), (1, .int x1), (3, .int x3), (5, .int y5J_3)]) hx hb dX12_answer_78 hl (k := 3) rfl rfl (by decide) rfl (fun ls hl => ?_)
      refine lv_goto (tgt := 147) hx hb dX12_answer_81 (by decide) ?_
      refine lv_iinc (v := (y5J_3 + 1)) (lv' := [(5, .int (y5J_3 + 1)), (4, .int (y4J_3 + 1)), (0, .ref (bs + 1088)), (1, .int x1), (3, .int x3)]) hx hb dX12_answer_147 hl (k := 4) rfl rfl (by decide) rfl (fun ls hl => ?_)
      refine lv_goto (tgt := 6) hx hb dX12_answer_150 (by decide) ?_
      obtain rfl := Option.some.inj hf
      exact hB _ rfl H locs ls hP hS (lv_sub hl [2, 3, 4, 1, 0] rfl)
    have hJ53 : ∀ (mmJ_6 : Mm) (y4J_6 : Int32) (y5J_6 : Int32) (y6J_6 : Int32) (y7J_6 : Int32) (H : Heap) (locs : List Loc) (ls : Array Slot), f_X12_answer_j53 mmJ_6 x1 x3 y4J_6 y5J_6 y6J_6 y7J_6 = some o → Wd D dA bs LY mmJ_6 H → va_S (Aq bs) s.heap H locs → lv_has ls 8 [(0, .ref (bs + 1088)), (1, .int x1), (3, .int x3), (4, .int y4J_6), (5, .int y5J_6), (6, .int y6J_6), (7, .int y7J_6)] → Wz p l e s m args below meth c D dA bs (some (.long out)) m1 2 44 H locs 53 ls [] := by
      intro mmJ_6 y4J_6 y5J_6 y6J_6 y7J_6 H locs ls hf hP hS hl
      unfold f_X12_answer_j53 at hf
      refine lv_aload_n hx hb dX12_answer_53 rfl (lv_at hl 0 rfl) ?_
      refine wd_getR (q := 1128) X hP L1088 fl_X12_133 rfl dX12_answer_54 ?_
      refine lv_iload hx hb dX12_answer_57 (lv_at hl 3 rfl) ?_
      refine lv_iload hx hb dX12_answer_59 (lv_at hl 5 rfl) ?_
      refine lv_if_ne (tgt := 70) hx hb dX12_answer_61 (by decide) (fun c_4 => ?_) (fun c_4 => ?_)
      · have hf := itF hf c_4
        refine lv_aload_n hx hb dX12_answer_70 rfl (lv_at hl 0 rfl) ?_
        refine wd_getR (q := 1127) X hP L1088 fl_X12_129 rfl dX12_answer_71 ?_
        refine lv_iload hx hb dX12_answer_74 (lv_at hl 6 rfl) ?_
        have g_5 := gdN hf
        have hf := gdK hf
        refine wd_lald X hP L1127 g_5 dX12_answer_76 ?_
        exact hJ77 mmJ_6 y4J_6 y5J_6 (mmJ_6.2 1127 y7J_6.toNatClampNeg) y4J_6 H locs ls hf hP hS (lv_sub hl [0, 1, 2, 3, 4] rfl)
      · have hf := itT hf c_4
        refine lv_iload hx hb dX12_answer_64 (lv_at hl 6 rfl) ?_
        refine lv_i2l hx hb dX12_answer_66 rfl ?_
        refine lv_goto (tgt := 77) hx hb dX12_answer_67 (by decide) ?_
        exact hJ77 mmJ_6 y4J_6 y5J_6 (y7J_6.toInt64) y4J_6 H locs ls hf hP hS (lv_sub hl [0, 1, 2, 3, 4] rfl)
    refine lv_iload hx hb dX12_answer_6 (lv_at hl 4 rfl) ?_
    refine lv_iload_n hx hb dX12_answer_8 rfl (lv_at hl 2 rfl) ?_
    refine lv_icmp_ge (tgt := 153) hx hb dX12_answer_9 (by decide) (fun c_7 => ?_) (fun c_7 => ?_)
    · have hf := itT hf c_7
      obtain rfl := Option.some.inj hf
      exact hE _ rfl H locs ls hP hS (lv_sub hl [0] rfl)
    · have hf := itF hf c_7
      refine lv_aload_n hx hb dX12_answer_12 rfl (lv_at hl 0 rfl) ?_
      refine wd_getR (q := 1120) X hP L1088 fl_X12_108 rfl dX12_answer_13 ?_
      refine lv_sipush (v := 300) hx hb dX12_answer_16 (by decide) ?_
      refine lv_iload_n hx hb dX12_answer_19 rfl (lv_at hl 1 rfl) ?_
      refine lv_imul hx hb dX12_answer_20 ?_
      refine lv_iload hx hb dX12_answer_21 (lv_at hl 4 rfl) ?_
      refine lv_iadd hx hb dX12_answer_23 ?_
      have g_8 := gdN hf
      have hf := gdK hf
      refine wd_iald X hP L1120 g_8 dX12_answer_24 ?_
      refine lv_topi (fun x6_9 ex6_9 => ?_)
      have hf := vl hf ex6_9
      refine lv_istore (lv' := [(6, .int x6_9), (0, .ref (bs + 1088)), (1, .int x1), (3, .int x3), (4, .int y4L_24), (5, .int y5L_24)]) hx hb dX12_answer_25 hl (by decide) rfl (fun ls hl => ?_)
      refine lv_aload_n hx hb dX12_answer_27 rfl (lv_at hl 1 rfl) ?_
      refine wd_getR (q := 1121) X hP L1088 fl_X12_111 rfl dX12_answer_28 ?_
      refine lv_sipush (v := 300) hx hb dX12_answer_31 (by decide) ?_
      refine lv_iload_n hx hb dX12_answer_34 rfl (lv_at hl 2 rfl) ?_
      refine lv_imul hx hb dX12_answer_35 ?_
      refine lv_iload hx hb dX12_answer_36 (lv_at hl 5 rfl) ?_
      refine lv_iadd hx hb dX12_answer_38 ?_
      have g_10 := gdN hf
      have hf := gdK hf
      refine wd_iald X hP L1121 g_10 dX12_answer_39 ?_
      refine lv_topi (fun x7_11 ex7_11 => ?_)
      have hf := vl hf ex7_11
      refine lv_istore (lv' := [(7, .int x7_11), (6, .int x6_9), (0, .ref (bs + 1088)), (1, .int x1), (3, .int x3), (4, .int y4L_24), (5, .int y5L_24)]) hx hb dX12_answer_40 hl (by decide) rfl (fun ls hl => ?_)
      refine lv_iload hx hb dX12_answer_42 (lv_at hl 1 rfl) ?_
      refine lv_if_eq (tgt := 53) hx hb dX12_answer_44 (by decide) (fun c_12 => ?_) (fun c_12 => ?_)
      · have hf := itT hf c_12
        exact hJ53 mmL_24 y4L_24 y5L_24 x6_9 x7_11 H locs ls hf hP hS (lv_sub hl [2, 3, 4, 5, 6, 1, 0] rfl)
      · have hf := itF hf c_12
        refine lv_iload hx hb dX12_answer_47 (lv_at hl 1 rfl) ?_
        refine lv_iconst (v := 1) hx hb dX12_answer_49 (by decide) ?_
        refine lv_icmp_ne (tgt := 84) hx hb dX12_answer_50 (by decide) (fun c_13 => ?_) (fun c_13 => ?_)
        · have hf := itF hf c_13
          refine lv_iload hx hb dX12_answer_84 (lv_at hl 1 rfl) ?_
          refine lv_bipush (v := 9) hx hb dX12_answer_86 (by decide) ?_
          refine lv_icmp_ne (tgt := 114) hx hb dX12_answer_88 (by decide) (fun c_14 => ?_) (fun c_14 => ?_)
          · have hf := itF hf c_14
            refine lv_iinc (v := (y4L_24 + (-1))) (lv' := [(4, .int (y4L_24 + (-1))), (7, .int x7_11), (6, .int x6_9), (0, .ref (bs + 1088)), (1, .int x1), (3, .int x3), (5, .int y5L_24)]) hx hb dX12_answer_114 hl (k := 5) rfl rfl (by decide) rfl (fun ls hl => ?_)
            refine lv_aload_n hx hb dX12_answer_117 rfl (lv_at hl 3 rfl) ?_
            refine wd_getR (q := 1128) X hP L1088 fl_X12_133 rfl dX12_answer_118 ?_
            refine lv_iload hx hb dX12_answer_121 (lv_at hl 0 rfl) ?_
            refine lv_iconst (v := 1) hx hb dX12_answer_123 (by decide) ?_
            refine lv_isub hx hb dX12_answer_124 ?_
            refine lv_iload hx hb dX12_answer_125 (lv_at hl 2 rfl) ?_
            refine lv_aload_n hx hb dX12_answer_127 rfl (lv_at hl 3 rfl) ?_
            refine wd_getR (q := 1128) X hP L1088 fl_X12_133 rfl dX12_answer_128 ?_
            refine lv_iload hx hb dX12_answer_131 (lv_at hl 0 rfl) ?_
            refine lv_iconst (v := 1) hx hb dX12_answer_133 (by decide) ?_
            refine lv_isub hx hb dX12_answer_134 ?_
            have g_15 := gdN hf
            have hf := gdK hf
            refine wd_lald X hP L1128 g_15 dX12_answer_135 ?_
            refine lv_aload_n hx hb dX12_answer_136 rfl (lv_at hl 3 rfl) ?_
            refine wd_getR (q := 1128) X hP L1088 fl_X12_133 rfl dX12_answer_137 ?_
            refine lv_iload hx hb dX12_answer_140 (lv_at hl 0 rfl) ?_
            have g_16 := gdN hf
            have hf := gdK hf
            refine wd_lald X hP L1128 g_16 dX12_answer_142 ?_
            obtain ⟨r_18, hc_17, hf⟩ := bi1S hf
            refine wd_cs X hP hS ml_X12_386 (c_X12_both l D dA zz bs mmL_24 x6_9 (mmL_24.2 1128 ((y4L_24 + (-1)) - (1 : Int32)).toNatClampNeg) (mmL_24.2 1128 (y4L_24 + (-1)).toNatClampNeg) r_18 hc_17) rfl ⟨Nat.le_of_ble_eq_true rfl, Nat.le_of_ble_eq_true rfl⟩ hl.1 rfl (rest := [.int ((y4L_24 + (-1)) - (1 : Int32)), .ref (bs + 1128)]) (Nat.le_of_ble_eq_true rfl) ⟨Nat.zero_le _, Nat.zero_le _⟩ dX12_answer_143 (fun H locs hP hS => ?_)
            refine W.eq (g2 := F0 m 146 ls [.long r_18, .int ((y4L_24 + (-1)) - (1 : Int32)), .ref (bs + 1128)]) rfl ?_
            have g_20 := gdN hf
            have hf := gdK hf
            refine wd_last X hP hS L1128 g_20 dX12_answer_146 (fun H locs mm_19 emm_19 hP hS => ?_)
            have hf := vl hf emm_19
            refine lv_iinc (v := (y5L_24 + 1)) (lv' := [(5, .int (y5L_24 + 1)), (4, .int (y4L_24 + (-1))), (7, .int x7_11), (6, .int x6_9), (0, .ref (bs + 1088)), (1, .int x1), (3, .int x3)]) hx hb dX12_answer_147 hl (k := 6) rfl rfl (by decide) rfl (fun ls hl => ?_)
            refine lv_goto (tgt := 6) hx hb dX12_answer_150 (by decide) ?_
            obtain rfl := Option.some.inj hf
            exact hB _ rfl H locs ls hP hS (lv_sub hl [4, 5, 6, 1, 0] rfl)
          · have hf := itT hf c_14
            refine lv_aload_n hx hb dX12_answer_91 rfl (lv_at hl 2 rfl) ?_
            refine wd_getR (q := 1128) X hP L1088 fl_X12_133 rfl dX12_answer_92 ?_
            refine lv_iload hx hb dX12_answer_95 (lv_at hl 5 rfl) ?_
            refine lv_iconst (v := 1) hx hb dX12_answer_97 (by decide) ?_
            refine lv_isub hx hb dX12_answer_98 ?_
            refine lv_lconst (v := 1) hx hb dX12_answer_99 (by decide) ?_
            refine lv_aload_n hx hb dX12_answer_100 rfl (lv_at hl 2 rfl) ?_
            refine wd_getR (q := 1128) X hP L1088 fl_X12_133 rfl dX12_answer_101 ?_
            refine lv_iload hx hb dX12_answer_104 (lv_at hl 5 rfl) ?_
            refine lv_iconst (v := 1) hx hb dX12_answer_106 (by decide) ?_
            refine lv_isub hx hb dX12_answer_107 ?_
            have g_21 := gdN hf
            have hf := gdK hf
            refine wd_lald X hP L1128 g_21 dX12_answer_108 ?_
            refine lv_lsub hx hb dX12_answer_109 ?_
            have g_23 := gdN hf
            have hf := gdK hf
            refine wd_last X hP hS L1128 g_23 dX12_answer_110 (fun H locs mm_22 emm_22 hP hS => ?_)
            have hf := vl hf emm_22
            refine lv_goto (tgt := 147) hx hb dX12_answer_111 (by decide) ?_
            refine lv_iinc (v := (y5L_24 + 1)) (lv' := [(5, .int (y5L_24 + 1)), (7, .int x7_11), (6, .int x6_9), (0, .ref (bs + 1088)), (1, .int x1), (3, .int x3), (4, .int y4L_24)]) hx hb dX12_answer_147 hl (k := 6) rfl rfl (by decide) rfl (fun ls hl => ?_)
            refine lv_goto (tgt := 6) hx hb dX12_answer_150 (by decide) ?_
            obtain rfl := Option.some.inj hf
            exact hB _ rfl H locs ls hP hS (lv_sub hl [3, 4, 5, 6, 0] rfl)
        · have hf := itT hf c_13
          exact hJ53 mmL_24 y4L_24 y5L_24 x6_9 x7_11 H locs ls hf hP hS (lv_sub hl [2, 3, 4, 5, 6, 1, 0] rfl)
  · obtain ⟨mm_25, e_mm_25⟩ : ∃ z, z = q_26 := ⟨_, rfl⟩
    subst e_mm_25
    intro H locs ls hP hS hl
    refine lv_aload_n hx hb dX12_answer_153 rfl (lv_at hl 0 rfl) ?_
    refine wd_getR (q := 1128) X hP L1088 fl_X12_133 rfl dX12_answer_154 ?_
    refine lv_iconst (v := 0) hx hb dX12_answer_157 (by decide) ?_
    refine wd_laldK (k := 0) X hP L1128 (by decide) (by decide) dX12_answer_158 ?_
    obtain ⟨rfl, rfl⟩ := Prod.mk.inj (Option.some.inj hf)
    exact wd_lret X hP hS hr0 dX12_answer_159 ⟨rfl, rfl⟩

noncomputable def f_X12_wanted_s5 (y1 : Int32) : (Int32 × Mm) → Option ((Int32 × Mm) ⊕ ((Int32 × Mm) ⊕ (Mm))) :=
  fun q => match q with
  | (y2, mm) =>
    if y1 < 0 ∨ 6 ≤ y1.toNatClampNeg then none else
      if (((12 : Int32) * y1) + (mm.1 1122 y1.toNatClampNeg)) ≤ y2 then
        some (.inr (.inr (mm)))
      else
        if y2 < 0 ∨ 72 ≤ y2.toNatClampNeg then none else
          if y2 < 0 ∨ 72 ≤ y2.toNatClampNeg then none else
            if (mm.1 1124 y2.toNatClampNeg) = (mm.1 1125 y2.toNatClampNeg) then
              some (.inr (.inl (y2, mm)))
            else
              if y2 < 0 ∨ 72 ≤ y2.toNatClampNeg then none else
                if y2 < 0 ∨ 72 ≤ y2.toNatClampNeg then none else
                  bi2 (f_X12_answer mm y1 (mm.1 1124 y2.toNatClampNeg) (mm.1 1125 y2.toNatClampNeg)) fun r_10 mm_8 =>
                    if (lg_cmp r_10 (1 : Int64)) = 0 then
                      some (.inr (.inl (y2, mm_8)))
                    else
                      some (.inl ((y2 + 1), mm_8))
noncomputable def f_X12_wanted (mm : Mm) (x1 : Int32) : Option (Int64 × Mm) :=
  bi1 (lp (f_X12_wanted_s5 x1) (((12 : Int32) * x1), mm)) fun q => match q with
  | .inl (w2_13, mm_14) =>
    if w2_13 < 0 ∨ 72 ≤ w2_13.toNatClampNeg then none else
      if w2_13 < 0 ∨ 72 ≤ w2_13.toNatClampNeg then none else
        bi2 (f_X12_answer mm_14 x1 (mm_14.1 1123 w2_13.toNatClampNeg) (mm_14.1 1124 w2_13.toNatClampNeg)) fun r_19 mm_17 => some (r_19, mm_17)
  | .inr (mm_20) =>
    some ((0 : Int64), mm_20)
set_option maxHeartbeats 4000000 in
set_option maxRecDepth 100000 in
theorem c_X12_wanted (l : Launch) (D : va_G) (dA : Nat → ClassId) (zz : (Nat → Nat) × (Nat → Nat)) (bs : Nat) (mm : Mm) (x1 : Int32) (out : Int64) (m1 : Mm) (hf : f_X12_wanted mm x1 = some (out, m1)) : Mw l D dA zz bs LY yX12_wanted cX12_wanted 3 (some .long) 3 71 [.ref (bs + 1088), .int x1] mm (some (.long out)) m1 := by
  refine Mw.of (own := RX12) (by decide) rfl (Nat.le_of_ble_eq_true rfl) ?_
  intro p e s m args below meth c X hr0 hP hS ls hl
  have hx := X.1
  have hb := X.2.1
  obtain ⟨H, hH⟩ : ∃ z : Heap, z = s.heap := ⟨_, rfl⟩
  obtain ⟨locs, hL⟩ : ∃ z : List Loc, z = [] := ⟨_, rfl⟩
  rw [← hH, ← hL]
  have hS : va_S (Aq bs) s.heap H locs := by rw [hH, hL]; exact hS
  have hP : Wd D dA bs LY mm H := by rw [hH]; exact hP
  have hl : lv_has ls 3 [(0, .ref (bs + 1088)), (1, .int x1)] := hl
  unfold f_X12_wanted at hf
  refine lv_bipush (v := 12) hx hb dX12_wanted_0 (by decide) ?_
  refine lv_iload_n hx hb dX12_wanted_2 rfl (lv_at hl 1 rfl) ?_
  refine lv_imul hx hb dX12_wanted_3 ?_
  refine lv_istore_n (lv' := [(2, .int ((12 : Int32) * x1)), (0, .ref (bs + 1088)), (1, .int x1)]) hx hb dX12_wanted_4 rfl hl (by decide) rfl (fun ls hl => ?_)
  obtain ⟨q_21, hlp_22, hf⟩ := bi1S hf
  refine lp_walk (Wh := (fun z => match z with | (y2L_12, mmL_12) => ∀ (H : Heap) (locs : List Loc) (ls : Array Slot), Wd D dA bs LY mmL_12 H → va_S (Aq bs) s.heap H locs → lv_has ls 3 [(0, .ref (bs + 1088)), (1, .int x1), (2, .int y2L_12)] → Wz p l e s m args below meth c D dA bs (some (.long out)) m1 3 71 H locs 5 ls [])) (Ph := (fun z => match z with | .inl (w2_13, mm_14) => ∀ (H : Heap) (locs : List Loc) (ls : Array Slot), Wd D dA bs LY mm_14 H → va_S (Aq bs) s.heap H locs → lv_has ls 3 [(0, .ref (bs + 1088)), (1, .int x1), (2, .int w2_13)] → Wz p l e s m args below meth c D dA bs (some (.long out)) m1 3 71 H locs 57 ls [] | .inr (mm_20) => ∀ (H : Heap) (locs : List Loc) (ls : Array Slot), Wd D dA bs LY mm_20 H → va_S (Aq bs) s.heap H locs → lv_has ls 3 [] → Wz p l e s m args below meth c D dA bs (some (.long out)) m1 3 71 H locs 81 ls [])) ?_ hlp_22 ?_ H locs ls hP hS (lv_sub hl [1, 2, 0] rfl)
  · intro z o hf hB hE
    obtain ⟨y2L_12, mmL_12⟩ := z
    intro H locs ls hP hS hl
    have hf : f_X12_wanted_s5 x1 (y2L_12, mmL_12) = some o := hf
    unfold f_X12_wanted_s5 at hf
    dsimp only at hf
    refine lv_iload_n hx hb dX12_wanted_5 rfl (lv_at hl 2 rfl) ?_
    refine lv_bipush (v := 12) hx hb dX12_wanted_6 (by decide) ?_
    refine lv_iload_n hx hb dX12_wanted_8 rfl (lv_at hl 1 rfl) ?_
    refine lv_imul hx hb dX12_wanted_9 ?_
    refine lv_aload_n hx hb dX12_wanted_10 rfl (lv_at hl 0 rfl) ?_
    refine wd_getR (q := 1122) X hP L1088 fl_X12_114 rfl dX12_wanted_11 ?_
    refine lv_iload_n hx hb dX12_wanted_14 rfl (lv_at hl 1 rfl) ?_
    have g_1 := gdN hf
    have hf := gdK hf
    refine wd_iald X hP L1122 g_1 dX12_wanted_15 ?_
    refine lv_iadd hx hb dX12_wanted_16 ?_
    refine lv_icmp_ge (tgt := 81) hx hb dX12_wanted_17 (by decide) (fun c_2 => ?_) (fun c_2 => ?_)
    · have hf := itT hf c_2
      obtain rfl := Option.some.inj hf
      exact hE _ rfl H locs ls hP hS (lv_sub hl [] rfl)
    · have hf := itF hf c_2
      refine lv_aload_n hx hb dX12_wanted_20 rfl (lv_at hl 0 rfl) ?_
      refine wd_getR (q := 1124) X hP L1088 fl_X12_120 rfl dX12_wanted_21 ?_
      refine lv_iload_n hx hb dX12_wanted_24 rfl (lv_at hl 2 rfl) ?_
      have g_3 := gdN hf
      have hf := gdK hf
      refine wd_iald X hP L1124 g_3 dX12_wanted_25 ?_
      refine lv_aload_n hx hb dX12_wanted_26 rfl (lv_at hl 0 rfl) ?_
      refine wd_getR (q := 1125) X hP L1088 fl_X12_123 rfl dX12_wanted_27 ?_
      refine lv_iload_n hx hb dX12_wanted_30 rfl (lv_at hl 2 rfl) ?_
      have g_4 := gdN hf
      have hf := gdK hf
      refine wd_iald X hP L1125 g_4 dX12_wanted_31 ?_
      refine lv_icmp_eq (tgt := 57) hx hb dX12_wanted_32 (by decide) (fun c_5 => ?_) (fun c_5 => ?_)
      · have hf := itT hf c_5
        obtain rfl := Option.some.inj hf
        exact hE _ rfl H locs ls hP hS (lv_sub hl [0, 1, 2] rfl)
      · have hf := itF hf c_5
        refine lv_aload_n hx hb dX12_wanted_35 rfl (lv_at hl 0 rfl) ?_
        refine lv_iload_n hx hb dX12_wanted_36 rfl (lv_at hl 1 rfl) ?_
        refine lv_aload_n hx hb dX12_wanted_37 rfl (lv_at hl 0 rfl) ?_
        refine wd_getR (q := 1124) X hP L1088 fl_X12_120 rfl dX12_wanted_38 ?_
        refine lv_iload_n hx hb dX12_wanted_41 rfl (lv_at hl 2 rfl) ?_
        have g_6 := gdN hf
        have hf := gdK hf
        refine wd_iald X hP L1124 g_6 dX12_wanted_42 ?_
        refine lv_aload_n hx hb dX12_wanted_43 rfl (lv_at hl 0 rfl) ?_
        refine wd_getR (q := 1125) X hP L1088 fl_X12_123 rfl dX12_wanted_44 ?_
        refine lv_iload_n hx hb dX12_wanted_47 rfl (lv_at hl 2 rfl) ?_
        have g_7 := gdN hf
        have hf := gdK hf
        refine wd_iald X hP L1125 g_7 dX12_wanted_48 ?_
        obtain ⟨r_10, mm_8, hc_9, hf⟩ := bi2S hf
        refine wd_cv X hP hS L1088 ml_X12_378 ⟨_, _, rfl⟩ (c_X12_answer l D dA zz bs mmL_12 x1 (mmL_12.1 1124 y2L_12.toNatClampNeg) (mmL_12.1 1125 y2L_12.toNatClampNeg) r_10 mm_8 hc_9) rfl ⟨Nat.le_of_ble_eq_true rfl, Nat.le_of_ble_eq_true rfl⟩ hl.1 rfl (rest := []) (Nat.le_of_ble_eq_true rfl) ⟨Nat.zero_le _, Nat.zero_le _⟩ dX12_wanted_49 (fun H locs hP hS => ?_)
        refine W.eq (g2 := F0 m 52 ls [.long r_10]) rfl ?_
        refine lv_lconst (v := 1) hx hb dX12_wanted_52 (by decide) ?_
        refine W.lcmp hx hb dX12_wanted_53 ?_
        refine lv_if_ne (tgt := 75) hx hb dX12_wanted_54 (by decide) (fun c_11 => ?_) (fun c_11 => ?_)
        · have hf := itF hf c_11
          refine lv_iinc (v := (y2L_12 + 1)) (lv' := [(2, .int (y2L_12 + 1)), (0, .ref (bs + 1088)), (1, .int x1)]) hx hb dX12_wanted_75 hl (k := 2) rfl rfl (by decide) rfl (fun ls hl => ?_)
          refine lv_goto (tgt := 5) hx hb dX12_wanted_78 (by decide) ?_
          obtain rfl := Option.some.inj hf
          exact hB _ rfl H locs ls hP hS (lv_sub hl [1, 2, 0] rfl)
        · have hf := itT hf c_11
          obtain rfl := Option.some.inj hf
          exact hE _ rfl H locs ls hP hS (lv_sub hl [0, 1, 2] rfl)
  · rcases q_21 with ⟨w2_13, mm_14⟩ | mm_20
    · dsimp only at hf
      intro H locs ls hP hS hl
      refine lv_aload_n hx hb dX12_wanted_57 rfl (lv_at hl 0 rfl) ?_
      refine lv_iload_n hx hb dX12_wanted_58 rfl (lv_at hl 1 rfl) ?_
      refine lv_aload_n hx hb dX12_wanted_59 rfl (lv_at hl 0 rfl) ?_
      refine wd_getR (q := 1123) X hP L1088 fl_X12_117 rfl dX12_wanted_60 ?_
      refine lv_iload_n hx hb dX12_wanted_63 rfl (lv_at hl 2 rfl) ?_
      have g_15 := gdN hf
      have hf := gdK hf
      refine wd_iald X hP L1123 g_15 dX12_wanted_64 ?_
      refine lv_aload_n hx hb dX12_wanted_65 rfl (lv_at hl 0 rfl) ?_
      refine wd_getR (q := 1124) X hP L1088 fl_X12_120 rfl dX12_wanted_66 ?_
      refine lv_iload_n hx hb dX12_wanted_69 rfl (lv_at hl 2 rfl) ?_
      have g_16 := gdN hf
      have hf := gdK hf
      refine wd_iald X hP L1124 g_16 dX12_wanted_70 ?_
      obtain ⟨r_19, mm_17, hc_18, hf⟩ := bi2S hf
      refine wd_cv X hP hS L1088 ml_X12_378 ⟨_, _, rfl⟩ (c_X12_answer l D dA zz bs mm_14 x1 (mm_14.1 1123 w2_13.toNatClampNeg) (mm_14.1 1124 w2_13.toNatClampNeg) r_19 mm_17 hc_18) rfl ⟨Nat.le_of_ble_eq_true rfl, Nat.le_of_ble_eq_true rfl⟩ hl.1 rfl (rest := []) (Nat.le_of_ble_eq_true rfl) ⟨Nat.zero_le _, Nat.zero_le _⟩ dX12_wanted_71 (fun H locs hP hS => ?_)
      refine W.eq (g2 := F0 m 74 ls [.long r_19]) rfl ?_
      obtain ⟨rfl, rfl⟩ := Prod.mk.inj (Option.some.inj hf)
      exact wd_lret X hP hS hr0 dX12_wanted_74 ⟨rfl, rfl⟩
    · dsimp only at hf
      intro H locs ls hP hS hl
      refine lv_lconst (v := 0) hx hb dX12_wanted_81 (by decide) ?_
      obtain ⟨rfl, rfl⟩ := Prod.mk.inj (Option.some.inj hf)
      exact wd_lret X hP hS hr0 dX12_wanted_82 ⟨rfl, rfl⟩

noncomputable def f_X12_isRule (mm : Mm) (x1 : Int32) : Option (Int32) :=
  if ¬ (f_X12_in (x1.toInt64) (0 : Int64) (((mm.1 1088 35) - (1 : Int32)).toInt64)) = 0 ∧ ¬ (f_X12_in (x1.toInt64) (0 : Int64) (((mm.1 1088 35) - (1 : Int32)).toInt64)) = 1 then none else
    some (f_X12_in (x1.toInt64) (0 : Int64) (((mm.1 1088 35) - (1 : Int32)).toInt64))
set_option maxHeartbeats 4000000 in
set_option maxRecDepth 100000 in
theorem c_X12_isRule (l : Launch) (D : va_G) (dA : Nat → ClassId) (zz : (Nat → Nat) × (Nat → Nat)) (bs : Nat) (mm : Mm) (x1 : Int32) (out : Int32) (hf : f_X12_isRule mm x1 = some out) : Mw l D dA zz bs LY yX12_isRule cX12_isRule 2 (some .boolean) 1 25 [.ref (bs + 1088), .int x1] mm (some (.int out)) mm := by
  refine Mw.of (own := RX12) (by decide) rfl (Nat.le_of_ble_eq_true rfl) ?_
  intro p e s m args below meth c X hr0 hP hS ls hl
  have hx := X.1
  have hb := X.2.1
  obtain ⟨H, hH⟩ : ∃ z : Heap, z = s.heap := ⟨_, rfl⟩
  obtain ⟨locs, hL⟩ : ∃ z : List Loc, z = [] := ⟨_, rfl⟩
  rw [← hH, ← hL]
  have hS : va_S (Aq bs) s.heap H locs := by rw [hH, hL]; exact hS
  have hP : Wd D dA bs LY mm H := by rw [hH]; exact hP
  have hl : lv_has ls 2 [(0, .ref (bs + 1088)), (1, .int x1)] := hl
  unfold f_X12_isRule at hf
  refine lv_iload_n hx hb dX12_isRule_0 rfl (lv_at hl 1 rfl) ?_
  refine lv_i2l hx hb dX12_isRule_1 rfl ?_
  refine lv_lconst (v := 0) hx hb dX12_isRule_2 (by decide) ?_
  refine lv_aload_n hx hb dX12_isRule_3 rfl (lv_at hl 0 rfl) ?_
  refine wd_getI X hP L1088 fl_X12_372 rfl dX12_isRule_4 ?_
  refine lv_iconst (v := 1) hx hb dX12_isRule_7 (by decide) ?_
  refine lv_isub hx hb dX12_isRule_8 ?_
  refine lv_i2l hx hb dX12_isRule_9 rfl ?_
  refine wd_cs X hP hS ml_X12_176 (c_X12_in l D dA zz bs mm (x1.toInt64) (0 : Int64) (((mm.1 1088 35) - (1 : Int32)).toInt64) (f_X12_in (x1.toInt64) (0 : Int64) (((mm.1 1088 35) - (1 : Int32)).toInt64)) rfl) rfl ⟨Nat.le_of_ble_eq_true rfl, Nat.le_of_ble_eq_true rfl⟩ hl.1 rfl (rest := []) (Nat.le_of_ble_eq_true rfl) ⟨Nat.zero_le _, Nat.zero_le _⟩ dX12_isRule_10 (fun H locs hP hS => ?_)
  refine W.eq (g2 := F0 m 13 ls [.int (f_X12_in (x1.toInt64) (0 : Int64) (((mm.1 1088 35) - (1 : Int32)).toInt64))]) rfl ?_
  have g_1 := gdN hf
  have hf := gdK hf
  obtain rfl := Option.some.inj hf
  exact wd_zret X hP hS hr0 g_1 dX12_isRule_13 ⟨rfl, rfl⟩

noncomputable def f_X12_afloat_j31 (mm : Mm) (y2 : Int32) (z0 : Int32) (z1 : Int32) : Option ((Int32 × Int32) ⊕ (Int32)) :=
  some (.inl ((z1 ||| z0), (y2 + 1)))
noncomputable def f_X12_afloat_s4 (mm : Mm) : (Int32 × Int32) → Option ((Int32 × Int32) ⊕ (Int32)) :=
  fun q => match q with
  | (y1, y2) =>
    if (mm.1 1089 3) ≤ y2 then
      some (.inr y1)
    else
      if y2 < 0 ∨ 8 ≤ y2.toNatClampNeg then none else
        if (mm.1 1097 y2.toNatClampNeg) = 0 then
          f_X12_afloat_j31 mm y2 ((1 : Int32) <<< (y2 &&& 31)) y1
        else
          f_X12_afloat_j31 mm y2 (0 : Int32) y1
noncomputable def f_X12_afloat (mm : Mm) : Option (Int32) :=
  bi1 (lp (f_X12_afloat_s4 mm) ((0 : Int32), (0 : Int32))) fun w1_6 =>
    some w1_6
set_option maxHeartbeats 4000000 in
set_option maxRecDepth 100000 in
theorem c_X12_afloat (l : Launch) (D : va_G) (dA : Nat → ClassId) (zz : (Nat → Nat) × (Nat → Nat)) (bs : Nat) (mm : Mm) (out : Int32) (hf : f_X12_afloat mm = some out) : Mw l D dA zz bs LY yX12_afloat cX12_afloat 3 (some .int) 0 0 [.ref (bs + 1088)] mm (some (.int out)) mm := by
  refine Mw.of (own := RX12) (by decide) rfl (Nat.le_of_ble_eq_true rfl) ?_
  intro p e s m args below meth c X hr0 hP hS ls hl
  have hx := X.1
  have hb := X.2.1
  obtain ⟨H, hH⟩ : ∃ z : Heap, z = s.heap := ⟨_, rfl⟩
  obtain ⟨locs, hL⟩ : ∃ z : List Loc, z = [] := ⟨_, rfl⟩
  rw [← hH, ← hL]
  have hS : va_S (Aq bs) s.heap H locs := by rw [hH, hL]; exact hS
  have hP : Wd D dA bs LY mm H := by rw [hH]; exact hP
  have hl : lv_has ls 3 [(0, .ref (bs + 1088))] := hl
  unfold f_X12_afloat at hf
  refine lv_iconst (v := 0) hx hb dX12_afloat_0 (by decide) ?_
  refine lv_istore_n (lv' := [(1, .int (0 : Int32)), (0, .ref (bs + 1088))]) hx hb dX12_afloat_1 rfl hl (by decide) rfl (fun ls hl => ?_)
  refine lv_iconst (v := 0) hx hb dX12_afloat_2 (by decide) ?_
  refine lv_istore_n (lv' := [(2, .int (0 : Int32)), (1, .int (0 : Int32)), (0, .ref (bs + 1088))]) hx hb dX12_afloat_3 rfl hl (by decide) rfl (fun ls hl => ?_)
  obtain ⟨q_7, hlp_8, hf⟩ := bi1S hf
  refine lp_walk (Wh := (fun z => match z with | (y1L_5, y2L_5) => ∀ (H : Heap) (locs : List Loc) (ls : Array Slot), Wd D dA bs LY mm H → va_S (Aq bs) s.heap H locs → lv_has ls 3 [(0, .ref (bs + 1088)), (1, .int y1L_5), (2, .int y2L_5)] → Wz p l e s m args below meth c D dA bs (some (.int out)) mm 0 0 H locs 4 ls [])) (Ph := (fun w1_6 => ∀ (H : Heap) (locs : List Loc) (ls : Array Slot), Wd D dA bs LY mm H → va_S (Aq bs) s.heap H locs → lv_has ls 3 [(1, .int w1_6)] → Wz p l e s m args below meth c D dA bs (some (.int out)) mm 0 0 H locs 39 ls [])) ?_ hlp_8 ?_ H locs ls hP hS (lv_sub hl [2, 1, 0] rfl)
  · intro z o hf hB hE
    obtain ⟨y1L_5, y2L_5⟩ := z
    intro H locs ls hP hS hl
    have hf : f_X12_afloat_s4 mm (y1L_5, y2L_5) = some o := hf
    unfold f_X12_afloat_s4 at hf
    dsimp only at hf
    have hJ31 : ∀ (y2J_1 : Int32) (z0J_1 : Int32) (z1J_1 : Int32) (H : Heap) (locs : List Loc) (ls : Array Slot), f_X12_afloat_j31 mm y2J_1 z0J_1 z1J_1 = some o → Wd D dA bs LY mm H → va_S (Aq bs) s.heap H locs → lv_has ls 3 [(0, .ref (bs + 1088)), (2, .int y2J_1)] → Wz p l e s m args below meth c D dA bs (some (.int out)) mm 0 0 H locs 31 ls [.int z0J_1, .int z1J_1] := by
      intro y2J_1 z0J_1 z1J_1 H locs ls hf hP hS hl
      unfold f_X12_afloat_j31 at hf
      refine lv_ior hx hb dX12_afloat_31 ?_
      refine lv_istore_n (lv' := [(1, .int (z1J_1 ||| z0J_1)), (0, .ref (bs + 1088)), (2, .int y2J_1)]) hx hb dX12_afloat_32 rfl hl (by decide) rfl (fun ls hl => ?_)
      refine lv_iinc (v := (y2J_1 + 1)) (lv' := [(2, .int (y2J_1 + 1)), (1, .int (z1J_1 ||| z0J_1)), (0, .ref (bs + 1088))]) hx hb dX12_afloat_33 hl (k := 2) rfl rfl (by decide) rfl (fun ls hl => ?_)
      refine lv_goto (tgt := 4) hx hb dX12_afloat_36 (by decide) ?_
      obtain rfl := Option.some.inj hf
      exact hB _ rfl H locs ls hP hS (lv_sub hl [2, 1, 0] rfl)
    refine lv_iload_n hx hb dX12_afloat_4 rfl (lv_at hl 2 rfl) ?_
    refine lv_aload_n hx hb dX12_afloat_5 rfl (lv_at hl 0 rfl) ?_
    refine wd_getR (q := 1089) X hP L1088 fl_X12_9 rfl dX12_afloat_6 ?_
    refine lv_iconst (v := 3) hx hb dX12_afloat_9 (by decide) ?_
    refine wd_ialdK (k := 3) X hP L1089 (by decide) (by decide) dX12_afloat_10 ?_
    refine lv_icmp_ge (tgt := 39) hx hb dX12_afloat_11 (by decide) (fun c_2 => ?_) (fun c_2 => ?_)
    · have hf := itT hf c_2
      obtain rfl := Option.some.inj hf
      exact hE _ rfl H locs ls hP hS (lv_sub hl [1] rfl)
    · have hf := itF hf c_2
      refine lv_iload_n hx hb dX12_afloat_14 rfl (lv_at hl 1 rfl) ?_
      refine lv_aload_n hx hb dX12_afloat_15 rfl (lv_at hl 0 rfl) ?_
      refine wd_getR (q := 1097) X hP L1088 fl_X12_34 rfl dX12_afloat_16 ?_
      refine lv_iload_n hx hb dX12_afloat_19 rfl (lv_at hl 2 rfl) ?_
      have g_3 := gdN hf
      have hf := gdK hf
      refine wd_iald X hP L1097 g_3 dX12_afloat_20 ?_
      refine lv_if_ne (tgt := 30) hx hb dX12_afloat_21 (by decide) (fun c_4 => ?_) (fun c_4 => ?_)
      · have hf := itF hf c_4
        refine lv_iconst (v := 0) hx hb dX12_afloat_30 (by decide) ?_
        exact hJ31 y2L_5 (0 : Int32) y1L_5 H locs ls hf hP hS (lv_sub hl [0, 2] rfl)
      · have hf := itT hf c_4
        refine lv_iconst (v := 1) hx hb dX12_afloat_24 (by decide) ?_
        refine lv_iload_n hx hb dX12_afloat_25 rfl (lv_at hl 2 rfl) ?_
        refine lv_ishl hx hb dX12_afloat_26 ?_
        refine lv_goto (tgt := 31) hx hb dX12_afloat_27 (by decide) ?_
        exact hJ31 y2L_5 ((1 : Int32) <<< (y2L_5 &&& 31)) y1L_5 H locs ls hf hP hS (lv_sub hl [0, 2] rfl)
  · obtain ⟨w1_6, e_w1_6⟩ : ∃ z, z = q_7 := ⟨_, rfl⟩
    subst e_w1_6
    intro H locs ls hP hS hl
    refine lv_iload_n hx hb dX12_afloat_39 rfl (lv_at hl 0 rfl) ?_
    obtain rfl := Option.some.inj hf
    exact wd_iret X hP hS hr0 dX12_afloat_40 ⟨rfl, rfl⟩

noncomputable def f_X12_allRopes (mm : Mm) : Int32 :=
  (((1 : Int32) <<< ((mm.1 1089 4) &&& 31)) - (1 : Int32))
set_option maxHeartbeats 4000000 in
set_option maxRecDepth 100000 in
theorem c_X12_allRopes (l : Launch) (D : va_G) (dA : Nat → ClassId) (zz : (Nat → Nat) × (Nat → Nat)) (bs : Nat) (mm : Mm) (out : Int32) (hf : f_X12_allRopes mm = out) : Mw l D dA zz bs LY yX12_allRopes cX12_allRopes 1 (some .int) 0 0 [.ref (bs + 1088)] mm (some (.int out)) mm := by
  refine Mw.of (own := RX12) (by decide) rfl (Nat.le_of_ble_eq_true rfl) ?_
  intro p e s m args below meth c X hr0 hP hS ls hl
  have hx := X.1
  have hb := X.2.1
  obtain ⟨H, hH⟩ : ∃ z : Heap, z = s.heap := ⟨_, rfl⟩
  obtain ⟨locs, hL⟩ : ∃ z : List Loc, z = [] := ⟨_, rfl⟩
  rw [← hH, ← hL]
  have hS : va_S (Aq bs) s.heap H locs := by rw [hH, hL]; exact hS
  have hP : Wd D dA bs LY mm H := by rw [hH]; exact hP
  have hl : lv_has ls 1 [(0, .ref (bs + 1088))] := hl
  unfold f_X12_allRopes at hf
  refine lv_iconst (v := 1) hx hb dX12_allRopes_0 (by decide) ?_
  refine lv_aload_n hx hb dX12_allRopes_1 rfl (lv_at hl 0 rfl) ?_
  refine wd_getR (q := 1089) X hP L1088 fl_X12_9 rfl dX12_allRopes_2 ?_
  refine lv_iconst (v := 4) hx hb dX12_allRopes_5 (by decide) ?_
  refine wd_ialdK (k := 4) X hP L1089 (by decide) (by decide) dX12_allRopes_6 ?_
  refine lv_ishl hx hb dX12_allRopes_7 ?_
  refine lv_iconst (v := 1) hx hb dX12_allRopes_8 (by decide) ?_
  refine lv_isub hx hb dX12_allRopes_9 ?_
  subst hf
  exact wd_iret X hP hS hr0 dX12_allRopes_10 ⟨rfl, rfl⟩

noncomputable def f_X12_hangsWith_j103 (mm : Mm) (y2 : Int32) (y3 : Int32) (y4 : Int32) (z0 : Int32) : Option ((Int32 × Int32) ⊕ (Int32)) :=
  some (.inl (y4, z0))
noncomputable def f_X12_hangsWith_s20 (mm : Mm) (y2 : Int32) (y3 : Int32) (y6 : Int32) : (Int32 × Int32) → Option ((Int32 × Int32) ⊕ (Int32)) :=
  fun q => match q with
  | (y4, y7) =>
    if (mm.1 1089 4) ≤ y7 then
      some (.inr y4)
    else
      if y7 < 0 ∨ 12 ≤ y7.toNatClampNeg then none else
        if y7 < 0 ∨ 12 ≤ y7.toNatClampNeg then none else
          vlet (((1 : Int32) <<< ((mm.1 1099 y7.toNatClampNeg) &&& 31)) ||| ((1 : Int32) <<< ((mm.1 1100 y7.toNatClampNeg) &&& 31))) fun (x8_7 : Int32) =>
            if (f_X12_has y3 y7) = 0 then
              some (.inl (y4, (y7 + 1)))
            else
              if (x8_7 &&& (y2 ^^^ (-1 : Int32))) = 0 then
                if (x8_7 &&& y4) = 0 then
                  some (.inl (y4, (y7 + 1)))
                else
                  some (.inl ((y4 ||| x8_7), (y7 + 1)))
              else
                some (.inl (y4, (y7 + 1)))
noncomputable def f_X12_hangsWith_s8 (mm : Mm) (y2 : Int32) (y3 : Int32) : (Int32 × Int32) → Option ((Int32 × Int32) ⊕ (Int32)) :=
  fun q => match q with
  | (y4, y5) =>
    if y5 = 0 then
      some (.inr y4)
    else
      bi1 (lp (f_X12_hangsWith_s20 mm y2 y3 y4) (y4, (0 : Int32))) fun w4_12 =>
        if w4_12 = y4 then
          f_X12_hangsWith_j103 mm y2 y3 w4_12 (0 : Int32)
        else
          f_X12_hangsWith_j103 mm y2 y3 w4_12 (1 : Int32)
noncomputable def f_X12_hangsWith (mm : Mm) (x1 : Int32) (x2 : Int32) (x3 : Int32) : Option (Int32) :=
  vlet ((1 : Int32) <<< (x1 &&& 31)) fun (x4_1 : Int32) =>
    bi1 (lp (f_X12_hangsWith_s8 mm x2 x3) (x4_1, (1 : Int32))) fun w4_17 =>
      some w4_17
set_option maxHeartbeats 4000000 in
set_option maxRecDepth 100000 in
theorem c_X12_hangsWith (l : Launch) (D : va_G) (dA : Nat → ClassId) (zz : (Nat → Nat) × (Nat → Nat)) (bs : Nat) (mm : Mm) (x1 : Int32) (x2 : Int32) (x3 : Int32) (out : Int32) (hf : f_X12_hangsWith mm x1 x2 x3 = some out) : Mw l D dA zz bs LY yX12_hangsWith cX12_hangsWith 9 (some .int) 1 21 [.ref (bs + 1088), .int x1, .int x2, .int x3] mm (some (.int out)) mm := by
  refine Mw.of (own := RX12) (by decide) rfl (Nat.le_of_ble_eq_true rfl) ?_
  intro p e s m args below meth c X hr0 hP hS ls hl
  have hx := X.1
  have hb := X.2.1
  obtain ⟨H, hH⟩ : ∃ z : Heap, z = s.heap := ⟨_, rfl⟩
  obtain ⟨locs, hL⟩ : ∃ z : List Loc, z = [] := ⟨_, rfl⟩
  rw [← hH, ← hL]
  have hS : va_S (Aq bs) s.heap H locs := by rw [hH, hL]; exact hS
  have hP : Wd D dA bs LY mm H := by rw [hH]; exact hP
  have hl : lv_has ls 9 [(0, .ref (bs + 1088)), (1, .int x1), (2, .int x2), (3, .int x3)] := hl
  unfold f_X12_hangsWith at hf
  refine lv_iconst (v := 1) hx hb dX12_hangsWith_0 (by decide) ?_
  refine lv_iload_n hx hb dX12_hangsWith_1 rfl (lv_at hl 1 rfl) ?_
  refine lv_ishl hx hb dX12_hangsWith_2 ?_
  refine lv_topi (fun x4_1 ex4_1 => ?_)
  have hf := vl hf ex4_1
  refine lv_istore (lv' := [(4, .int x4_1), (0, .ref (bs + 1088)), (1, .int x1), (2, .int x2), (3, .int x3)]) hx hb dX12_hangsWith_3 hl (by decide) rfl (fun ls hl => ?_)
  refine lv_iconst (v := 1) hx hb dX12_hangsWith_5 (by decide) ?_
  refine lv_istore (lv' := [(5, .int (1 : Int32)), (4, .int x4_1), (0, .ref (bs + 1088)), (1, .int x1), (2, .int x2), (3, .int x3)]) hx hb dX12_hangsWith_6 hl (by decide) rfl (fun ls hl => ?_)
  obtain ⟨q_18, hlp_19, hf⟩ := bi1S hf
  refine lp_walk (Wh := (fun z => match z with | (y4L_16, y5L_16) => ∀ (H : Heap) (locs : List Loc) (ls : Array Slot), Wd D dA bs LY mm H → va_S (Aq bs) s.heap H locs → lv_has ls 9 [(0, .ref (bs + 1088)), (2, .int x2), (3, .int x3), (4, .int y4L_16), (5, .int y5L_16)] → Wz p l e s m args below meth c D dA bs (some (.int out)) mm 1 21 H locs 8 ls [])) (Ph := (fun w4_17 => ∀ (H : Heap) (locs : List Loc) (ls : Array Slot), Wd D dA bs LY mm H → va_S (Aq bs) s.heap H locs → lv_has ls 9 [(4, .int w4_17)] → Wz p l e s m args below meth c D dA bs (some (.int out)) mm 1 21 H locs 108 ls [])) ?_ hlp_19 ?_ H locs ls hP hS (lv_sub hl [2, 4, 5, 1, 0] rfl)
  · intro z o hf hB hE
    obtain ⟨y4L_16, y5L_16⟩ := z
    intro H locs ls hP hS hl
    have hf : f_X12_hangsWith_s8 mm x2 x3 (y4L_16, y5L_16) = some o := hf
    unfold f_X12_hangsWith_s8 at hf
    dsimp only at hf
    have hJ103 : ∀ (y4J_2 : Int32) (z0J_2 : Int32) (H : Heap) (locs : List Loc) (ls : Array Slot), f_X12_hangsWith_j103 mm x2 x3 y4J_2 z0J_2 = some o → Wd D dA bs LY mm H → va_S (Aq bs) s.heap H locs → lv_has ls 9 [(0, .ref (bs + 1088)), (2, .int x2), (3, .int x3), (4, .int y4J_2)] → Wz p l e s m args below meth c D dA bs (some (.int out)) mm 1 21 H locs 103 ls [.int z0J_2] := by
      intro y4J_2 z0J_2 H locs ls hf hP hS hl
      unfold f_X12_hangsWith_j103 at hf
      refine lv_istore (lv' := [(5, .int z0J_2), (0, .ref (bs + 1088)), (2, .int x2), (3, .int x3), (4, .int y4J_2)]) hx hb dX12_hangsWith_103 hl (by decide) rfl (fun ls hl => ?_)
      refine lv_goto (tgt := 8) hx hb dX12_hangsWith_105 (by decide) ?_
      obtain rfl := Option.some.inj hf
      exact hB _ rfl H locs ls hP hS (lv_sub hl [1, 2, 3, 4, 0] rfl)
    refine lv_iload hx hb dX12_hangsWith_8 (lv_at hl 4 rfl) ?_
    refine lv_if_eq (tgt := 108) hx hb dX12_hangsWith_10 (by decide) (fun c_3 => ?_) (fun c_3 => ?_)
    · have hf := itT hf c_3
      obtain rfl := Option.some.inj hf
      exact hE _ rfl H locs ls hP hS (lv_sub hl [3] rfl)
    · have hf := itF hf c_3
      refine lv_iload hx hb dX12_hangsWith_13 (lv_at hl 3 rfl) ?_
      refine lv_istore (lv' := [(6, .int y4L_16), (0, .ref (bs + 1088)), (2, .int x2), (3, .int x3), (4, .int y4L_16), (5, .int y5L_16)]) hx hb dX12_hangsWith_15 hl (by decide) rfl (fun ls hl => ?_)
      refine lv_iconst (v := 0) hx hb dX12_hangsWith_17 (by decide) ?_
      refine lv_istore (lv' := [(7, .int (0 : Int32)), (6, .int y4L_16), (0, .ref (bs + 1088)), (2, .int x2), (3, .int x3), (4, .int y4L_16), (5, .int y5L_16)]) hx hb dX12_hangsWith_18 hl (by decide) rfl (fun ls hl => ?_)
      obtain ⟨q_14, hlp_15, hf⟩ := bi1S hf
      refine lp_walk (Wh := (fun z => match z with | (y4L_11, y7L_11) => ∀ (H : Heap) (locs : List Loc) (ls : Array Slot), Wd D dA bs LY mm H → va_S (Aq bs) s.heap H locs → lv_has ls 9 [(0, .ref (bs + 1088)), (2, .int x2), (3, .int x3), (4, .int y4L_11), (6, .int y4L_16), (7, .int y7L_11)] → Wz p l e s m args below meth c D dA bs (some (.int out)) mm 1 21 H locs 20 ls [])) (Ph := (fun w4_12 => ∀ (H : Heap) (locs : List Loc) (ls : Array Slot), Wd D dA bs LY mm H → va_S (Aq bs) s.heap H locs → lv_has ls 9 [(0, .ref (bs + 1088)), (2, .int x2), (3, .int x3), (4, .int w4_12), (6, .int y4L_16)] → Wz p l e s m args below meth c D dA bs (some (.int out)) mm 1 21 H locs 91 ls [])) ?_ hlp_15 ?_ H locs ls hP hS (lv_sub hl [2, 3, 4, 5, 1, 0] rfl)
      · intro z o hf hB hE
        obtain ⟨y4L_11, y7L_11⟩ := z
        intro H locs ls hP hS hl
        have hf : f_X12_hangsWith_s20 mm x2 x3 y4L_16 (y4L_11, y7L_11) = some o := hf
        unfold f_X12_hangsWith_s20 at hf
        dsimp only at hf
        refine lv_iload hx hb dX12_hangsWith_20 (lv_at hl 5 rfl) ?_
        refine lv_aload_n hx hb dX12_hangsWith_22 rfl (lv_at hl 0 rfl) ?_
        refine wd_getR (q := 1089) X hP L1088 fl_X12_9 rfl dX12_hangsWith_23 ?_
        refine lv_iconst (v := 4) hx hb dX12_hangsWith_26 (by decide) ?_
        refine wd_ialdK (k := 4) X hP L1089 (by decide) (by decide) dX12_hangsWith_27 ?_
        refine lv_icmp_ge (tgt := 91) hx hb dX12_hangsWith_28 (by decide) (fun c_4 => ?_) (fun c_4 => ?_)
        · have hf := itT hf c_4
          obtain rfl := Option.some.inj hf
          exact hE _ rfl H locs ls hP hS (lv_sub hl [0, 1, 2, 3, 4] rfl)
        · have hf := itF hf c_4
          refine lv_iconst (v := 1) hx hb dX12_hangsWith_31 (by decide) ?_
          refine lv_aload_n hx hb dX12_hangsWith_32 rfl (lv_at hl 0 rfl) ?_
          refine wd_getR (q := 1099) X hP L1088 fl_X12_40 rfl dX12_hangsWith_33 ?_
          refine lv_iload hx hb dX12_hangsWith_36 (lv_at hl 5 rfl) ?_
          have g_5 := gdN hf
          have hf := gdK hf
          refine wd_iald X hP L1099 g_5 dX12_hangsWith_38 ?_
          refine lv_ishl hx hb dX12_hangsWith_39 ?_
          refine lv_iconst (v := 1) hx hb dX12_hangsWith_40 (by decide) ?_
          refine lv_aload_n hx hb dX12_hangsWith_41 rfl (lv_at hl 0 rfl) ?_
          refine wd_getR (q := 1100) X hP L1088 fl_X12_43 rfl dX12_hangsWith_42 ?_
          refine lv_iload hx hb dX12_hangsWith_45 (lv_at hl 5 rfl) ?_
          have g_6 := gdN hf
          have hf := gdK hf
          refine wd_iald X hP L1100 g_6 dX12_hangsWith_47 ?_
          refine lv_ishl hx hb dX12_hangsWith_48 ?_
          refine lv_ior hx hb dX12_hangsWith_49 ?_
          refine lv_topi (fun x8_7 ex8_7 => ?_)
          have hf := vl hf ex8_7
          refine lv_istore (lv' := [(8, .int x8_7), (0, .ref (bs + 1088)), (2, .int x2), (3, .int x3), (4, .int y4L_11), (6, .int y4L_16), (7, .int y7L_11)]) hx hb dX12_hangsWith_50 hl (by decide) rfl (fun ls hl => ?_)
          refine lv_iload_n hx hb dX12_hangsWith_52 rfl (lv_at hl 3 rfl) ?_
          refine lv_iload hx hb dX12_hangsWith_53 (lv_at hl 6 rfl) ?_
          refine wd_cs X hP hS ml_X12_390 (c_X12_has l D dA zz bs mm x3 y7L_11 (f_X12_has x3 y7L_11) rfl) rfl ⟨Nat.le_of_ble_eq_true rfl, Nat.le_of_ble_eq_true rfl⟩ hl.1 rfl (rest := []) (Nat.le_of_ble_eq_true rfl) ⟨Nat.zero_le _, Nat.zero_le _⟩ dX12_hangsWith_55 (fun H locs hP hS => ?_)
          refine W.eq (g2 := F0 m 58 ls [.int (f_X12_has x3 y7L_11)]) rfl ?_
          refine lv_if_eq (tgt := 85) hx hb dX12_hangsWith_58 (by decide) (fun c_8 => ?_) (fun c_8 => ?_)
          · have hf := itT hf c_8
            refine lv_iinc (v := (y7L_11 + 1)) (lv' := [(7, .int (y7L_11 + 1)), (8, .int x8_7), (0, .ref (bs + 1088)), (2, .int x2), (3, .int x3), (4, .int y4L_11), (6, .int y4L_16)]) hx hb dX12_hangsWith_85 hl (k := 6) rfl rfl (by decide) rfl (fun ls hl => ?_)
            refine lv_goto (tgt := 20) hx hb dX12_hangsWith_88 (by decide) ?_
            obtain rfl := Option.some.inj hf
            exact hB _ rfl H locs ls hP hS (lv_sub hl [2, 3, 4, 5, 6, 0] rfl)
          · have hf := itF hf c_8
            refine lv_iload hx hb dX12_hangsWith_61 (lv_at hl 0 rfl) ?_
            refine lv_iload_n hx hb dX12_hangsWith_63 rfl (lv_at hl 2 rfl) ?_
            refine lv_iconst (v := -1) hx hb dX12_hangsWith_64 (by decide) ?_
            refine lv_ixor hx hb dX12_hangsWith_65 ?_
            refine lv_iand hx hb dX12_hangsWith_66 ?_
            refine lv_if_ne (tgt := 85) hx hb dX12_hangsWith_67 (by decide) (fun c_9 => ?_) (fun c_9 => ?_)
            · have hf := itF hf c_9
              refine lv_iinc (v := (y7L_11 + 1)) (lv' := [(7, .int (y7L_11 + 1)), (8, .int x8_7), (0, .ref (bs + 1088)), (2, .int x2), (3, .int x3), (4, .int y4L_11), (6, .int y4L_16)]) hx hb dX12_hangsWith_85 hl (k := 6) rfl rfl (by decide) rfl (fun ls hl => ?_)
              refine lv_goto (tgt := 20) hx hb dX12_hangsWith_88 (by decide) ?_
              obtain rfl := Option.some.inj hf
              exact hB _ rfl H locs ls hP hS (lv_sub hl [2, 3, 4, 5, 6, 0] rfl)
            · have hf := itT hf c_9
              refine lv_iload hx hb dX12_hangsWith_70 (lv_at hl 0 rfl) ?_
              refine lv_iload hx hb dX12_hangsWith_72 (lv_at hl 4 rfl) ?_
              refine lv_iand hx hb dX12_hangsWith_74 ?_
              refine lv_if_eq (tgt := 85) hx hb dX12_hangsWith_75 (by decide) (fun c_10 => ?_) (fun c_10 => ?_)
              · have hf := itT hf c_10
                refine lv_iinc (v := (y7L_11 + 1)) (lv' := [(7, .int (y7L_11 + 1)), (8, .int x8_7), (0, .ref (bs + 1088)), (2, .int x2), (3, .int x3), (4, .int y4L_11), (6, .int y4L_16)]) hx hb dX12_hangsWith_85 hl (k := 6) rfl rfl (by decide) rfl (fun ls hl => ?_)
                refine lv_goto (tgt := 20) hx hb dX12_hangsWith_88 (by decide) ?_
                obtain rfl := Option.some.inj hf
                exact hB _ rfl H locs ls hP hS (lv_sub hl [2, 3, 4, 5, 6, 0] rfl)
              · have hf := itF hf c_10
                refine lv_iload hx hb dX12_hangsWith_78 (lv_at hl 4 rfl) ?_
                refine lv_iload hx hb dX12_hangsWith_80 (lv_at hl 0 rfl) ?_
                refine lv_ior hx hb dX12_hangsWith_82 ?_
                refine lv_istore (lv' := [(4, .int (y4L_11 ||| x8_7)), (8, .int x8_7), (0, .ref (bs + 1088)), (2, .int x2), (3, .int x3), (6, .int y4L_16), (7, .int y7L_11)]) hx hb dX12_hangsWith_83 hl (by decide) rfl (fun ls hl => ?_)
                refine lv_iinc (v := (y7L_11 + 1)) (lv' := [(7, .int (y7L_11 + 1)), (4, .int (y4L_11 ||| x8_7)), (8, .int x8_7), (0, .ref (bs + 1088)), (2, .int x2), (3, .int x3), (6, .int y4L_16)]) hx hb dX12_hangsWith_85 hl (k := 6) rfl rfl (by decide) rfl (fun ls hl => ?_)
                refine lv_goto (tgt := 20) hx hb dX12_hangsWith_88 (by decide) ?_
                obtain rfl := Option.some.inj hf
                exact hB _ rfl H locs ls hP hS (lv_sub hl [3, 4, 5, 1, 6, 0] rfl)
      · obtain ⟨w4_12, e_w4_12⟩ : ∃ z, z = q_14 := ⟨_, rfl⟩
        subst e_w4_12
        intro H locs ls hP hS hl
        refine lv_iload hx hb dX12_hangsWith_91 (lv_at hl 3 rfl) ?_
        refine lv_iload hx hb dX12_hangsWith_93 (lv_at hl 4 rfl) ?_
        refine lv_icmp_eq (tgt := 102) hx hb dX12_hangsWith_95 (by decide) (fun c_13 => ?_) (fun c_13 => ?_)
        · have hf := itT hf c_13
          refine lv_iconst (v := 0) hx hb dX12_hangsWith_102 (by decide) ?_
          exact hJ103 w4_12 (0 : Int32) H locs ls hf hP hS (lv_sub hl [0, 1, 2, 3] rfl)
        · have hf := itF hf c_13
          refine lv_iconst (v := 1) hx hb dX12_hangsWith_98 (by decide) ?_
          refine lv_goto (tgt := 103) hx hb dX12_hangsWith_99 (by decide) ?_
          exact hJ103 w4_12 (1 : Int32) H locs ls hf hP hS (lv_sub hl [0, 1, 2, 3] rfl)
  · obtain ⟨w4_17, e_w4_17⟩ : ∃ z, z = q_18 := ⟨_, rfl⟩
    subst e_w4_17
    intro H locs ls hP hS hl
    refine lv_iload hx hb dX12_hangsWith_108 (lv_at hl 0 rfl) ?_
    obtain rfl := Option.some.inj hf
    exact wd_iret X hP hS hr0 dX12_hangsWith_110 ⟨rfl, rfl⟩

noncomputable def f_X12_pieceOf (mm : Mm) (x1 : Int32) : Option (Int32) :=
  bi1 (f_X12_afloat mm) fun r_2 =>
    bi1 (f_X12_hangsWith mm x1 r_2 (f_X12_allRopes mm)) fun r_4 => some r_4
set_option maxHeartbeats 4000000 in
set_option maxRecDepth 100000 in
theorem c_X12_pieceOf (l : Launch) (D : va_G) (dA : Nat → ClassId) (zz : (Nat → Nat) × (Nat → Nat)) (bs : Nat) (mm : Mm) (x1 : Int32) (out : Int32) (hf : f_X12_pieceOf mm x1 = some out) : Mw l D dA zz bs LY yX12_pieceOf cX12_pieceOf 2 (some .int) 2 49 [.ref (bs + 1088), .int x1] mm (some (.int out)) mm := by
  refine Mw.of (own := RX12) (by decide) rfl (Nat.le_of_ble_eq_true rfl) ?_
  intro p e s m args below meth c X hr0 hP hS ls hl
  have hx := X.1
  have hb := X.2.1
  obtain ⟨H, hH⟩ : ∃ z : Heap, z = s.heap := ⟨_, rfl⟩
  obtain ⟨locs, hL⟩ : ∃ z : List Loc, z = [] := ⟨_, rfl⟩
  rw [← hH, ← hL]
  have hS : va_S (Aq bs) s.heap H locs := by rw [hH, hL]; exact hS
  have hP : Wd D dA bs LY mm H := by rw [hH]; exact hP
  have hl : lv_has ls 2 [(0, .ref (bs + 1088)), (1, .int x1)] := hl
  unfold f_X12_pieceOf at hf
  refine lv_aload_n hx hb dX12_pieceOf_0 rfl (lv_at hl 0 rfl) ?_
  refine lv_iload_n hx hb dX12_pieceOf_1 rfl (lv_at hl 1 rfl) ?_
  refine lv_aload_n hx hb dX12_pieceOf_2 rfl (lv_at hl 0 rfl) ?_
  obtain ⟨r_2, hc_1, hf⟩ := bi1S hf
  refine wd_cv X hP hS L1088 ml_X12_393 ⟨_, _, rfl⟩ (c_X12_afloat l D dA zz bs mm r_2 hc_1) rfl ⟨Nat.le_of_ble_eq_true rfl, Nat.le_of_ble_eq_true rfl⟩ hl.1 rfl (rest := [.int x1, .ref (bs + 1088)]) (Nat.le_of_ble_eq_true rfl) ⟨Nat.zero_le _, Nat.zero_le _⟩ dX12_pieceOf_3 (fun H locs hP hS => ?_)
  refine W.eq (g2 := F0 m 6 ls [.int r_2, .int x1, .ref (bs + 1088)]) rfl ?_
  refine lv_aload_n hx hb dX12_pieceOf_6 rfl (lv_at hl 0 rfl) ?_
  refine wd_cv X hP hS L1088 ml_X12_396 ⟨_, _, rfl⟩ (c_X12_allRopes l D dA zz bs mm (f_X12_allRopes mm) rfl) rfl ⟨Nat.le_of_ble_eq_true rfl, Nat.le_of_ble_eq_true rfl⟩ hl.1 rfl (rest := [.int r_2, .int x1, .ref (bs + 1088)]) (Nat.le_of_ble_eq_true rfl) ⟨Nat.zero_le _, Nat.zero_le _⟩ dX12_pieceOf_7 (fun H locs hP hS => ?_)
  refine W.eq (g2 := F0 m 10 ls [.int (f_X12_allRopes mm), .int r_2, .int x1, .ref (bs + 1088)]) rfl ?_
  obtain ⟨r_4, hc_3, hf⟩ := bi1S hf
  refine wd_cv X hP hS L1088 ml_X12_399 ⟨_, _, rfl⟩ (c_X12_hangsWith l D dA zz bs mm x1 r_2 (f_X12_allRopes mm) r_4 hc_3) rfl ⟨Nat.le_of_ble_eq_true rfl, Nat.le_of_ble_eq_true rfl⟩ hl.1 rfl (rest := []) (Nat.le_of_ble_eq_true rfl) ⟨Nat.zero_le _, Nat.zero_le _⟩ dX12_pieceOf_10 (fun H locs hP hS => ?_)
  refine W.eq (g2 := F0 m 13 ls [.int r_4]) rfl ?_
  obtain rfl := Option.some.inj hf
  exact wd_iret X hP hS hr0 dX12_pieceOf_13 ⟨rfl, rfl⟩

noncomputable def f_X12_least_s2 (mm : Mm) (y0 : Int32) : (Int32) → Option ((Int32) ⊕ (Int32)) :=
  fun (y1 : Int32) =>
    if (f_X12_has y0 y1) = 0 then
      some (.inl (y1 + 1))
    else
      some (.inr y1)
noncomputable def f_X12_least (mm : Mm) (x0 : Int32) : Option (Int32) :=
  bi1 (lp (f_X12_least_s2 mm x0) (0 : Int32)) fun w1_3 =>
    some w1_3
set_option maxHeartbeats 4000000 in
set_option maxRecDepth 100000 in
theorem c_X12_least (l : Launch) (D : va_G) (dA : Nat → ClassId) (zz : (Nat → Nat) × (Nat → Nat)) (bs : Nat) (mm : Mm) (x0 : Int32) (out : Int32) (hf : f_X12_least mm x0 = some out) : Mw l D dA zz bs LY yX12_least cX12_least 2 (some .int) 1 21 [.int x0] mm (some (.int out)) mm := by
  refine Mw.of (own := RX12) (by decide) rfl (Nat.le_of_ble_eq_true rfl) ?_
  intro p e s m args below meth c X hr0 hP hS ls hl
  have hx := X.1
  have hb := X.2.1
  obtain ⟨H, hH⟩ : ∃ z : Heap, z = s.heap := ⟨_, rfl⟩
  obtain ⟨locs, hL⟩ : ∃ z : List Loc, z = [] := ⟨_, rfl⟩
  rw [← hH, ← hL]
  have hS : va_S (Aq bs) s.heap H locs := by rw [hH, hL]; exact hS
  have hP : Wd D dA bs LY mm H := by rw [hH]; exact hP
  have hl : lv_has ls 2 [(0, .int x0)] := hl
  unfold f_X12_least at hf
  refine lv_iconst (v := 0) hx hb dX12_least_0 (by decide) ?_
  refine lv_istore_n (lv' := [(1, .int (0 : Int32)), (0, .int x0)]) hx hb dX12_least_1 rfl hl (by decide) rfl (fun ls hl => ?_)
  obtain ⟨q_4, hlp_5, hf⟩ := bi1S hf
  refine lp_walk (Wh := (fun y1L_2 => ∀ (H : Heap) (locs : List Loc) (ls : Array Slot), Wd D dA bs LY mm H → va_S (Aq bs) s.heap H locs → lv_has ls 2 [(0, .int x0), (1, .int y1L_2)] → Wz p l e s m args below meth c D dA bs (some (.int out)) mm 1 21 H locs 2 ls [])) (Ph := (fun w1_3 => ∀ (H : Heap) (locs : List Loc) (ls : Array Slot), Wd D dA bs LY mm H → va_S (Aq bs) s.heap H locs → lv_has ls 2 [(1, .int w1_3)] → Wz p l e s m args below meth c D dA bs (some (.int out)) mm 1 21 H locs 16 ls [])) ?_ hlp_5 ?_ H locs ls hP hS (lv_sub hl [1, 0] rfl)
  · intro y1L_2 o hf hB hE
    intro H locs ls hP hS hl
    have hf : f_X12_least_s2 mm x0 y1L_2 = some o := hf
    unfold f_X12_least_s2 at hf
    refine lv_iload_n hx hb dX12_least_2 rfl (lv_at hl 0 rfl) ?_
    refine lv_iload_n hx hb dX12_least_3 rfl (lv_at hl 1 rfl) ?_
    refine wd_cs X hP hS ml_X12_390 (c_X12_has l D dA zz bs mm x0 y1L_2 (f_X12_has x0 y1L_2) rfl) rfl ⟨Nat.le_of_ble_eq_true rfl, Nat.le_of_ble_eq_true rfl⟩ hl.1 rfl (rest := []) (Nat.le_of_ble_eq_true rfl) ⟨Nat.zero_le _, Nat.zero_le _⟩ dX12_least_4 (fun H locs hP hS => ?_)
    refine W.eq (g2 := F0 m 7 ls [.int (f_X12_has x0 y1L_2)]) rfl ?_
    refine lv_if_ne (tgt := 16) hx hb dX12_least_7 (by decide) (fun c_1 => ?_) (fun c_1 => ?_)
    · have hf := itF hf c_1
      obtain rfl := Option.some.inj hf
      exact hE _ rfl H locs ls hP hS (lv_sub hl [1] rfl)
    · have hf := itT hf c_1
      refine lv_iinc (v := (y1L_2 + 1)) (lv' := [(1, .int (y1L_2 + 1)), (0, .int x0)]) hx hb dX12_least_10 hl (k := 1) rfl rfl (by decide) rfl (fun ls hl => ?_)
      refine lv_goto (tgt := 2) hx hb dX12_least_13 (by decide) ?_
      obtain rfl := Option.some.inj hf
      exact hB _ rfl H locs ls hP hS (lv_sub hl [1, 0] rfl)
  · obtain ⟨w1_3, e_w1_3⟩ : ∃ z, z = q_4 := ⟨_, rfl⟩
    subst e_w1_3
    intro H locs ls hP hS hl
    refine lv_iload_n hx hb dX12_least_16 rfl (lv_at hl 0 rfl) ?_
    obtain rfl := Option.some.inj hf
    exact wd_iret X hP hS hr0 dX12_least_17 ⟨rfl, rfl⟩

noncomputable def f_X12_riddenBy_j157 (mm : Mm) (y1 : Int32) (y2 : Int32) (y3 : Int32) (y5 : Int32) (y6 : Int32) (y7 : Int32) (z0 : Int32) : Option ((Int32 × Int32 × Int32 × Int32) ⊕ (Int32)) :=
  some (.inl (y3, z0, y5, (y7 + 1)))
noncomputable def f_X12_riddenBy_j142 (mm : Mm) (y1 : Int32) (y2 : Int32) (y4 : Int32) (y5 : Int32) (y6 : Int32) (y7 : Int32) (y9 : Int32) (z0 : Int32) : Option ((Int32 × Int32 × Int32 × Int32) ⊕ (Int32)) :=
  if y9 ≤ y4 then
    f_X12_riddenBy_j157 mm y1 y2 z0 y5 y6 y7 y4
  else
    f_X12_riddenBy_j157 mm y1 y2 z0 y5 y6 y7 y9
noncomputable def f_X12_riddenBy_j120 (mm : Mm) (y1 : Int32) (y2 : Int32) (y3 : Int32) (y4 : Int32) (y5 : Int32) (y6 : Int32) (y7 : Int32) (y8 : Int32) (y10 : Int32) (z0 : Int32) (z1 : Int32) : Option ((Int32 × Int32) ⊕ (Int32)) :=
  some (.inl ((z1 + z0), (y10 + 1)))
noncomputable def f_X12_riddenBy_j119 (mm : Mm) (y1 : Int32) (y2 : Int32) (y3 : Int32) (y4 : Int32) (y5 : Int32) (y6 : Int32) (y7 : Int32) (y8 : Int32) (y10 : Int32) (z0 : Int32) : Option ((Int32 × Int32) ⊕ (Int32)) :=
  f_X12_riddenBy_j120 mm y1 y2 y3 y4 y5 y6 y7 y8 y10 (0 : Int32) z0
noncomputable def f_X12_riddenBy_s81 (mm : Mm) (y1 : Int32) (y2 : Int32) (y3 : Int32) (y4 : Int32) (y5 : Int32) (y6 : Int32) (y7 : Int32) (y8 : Int32) : (Int32 × Int32) → Option ((Int32 × Int32) ⊕ (Int32)) :=
  fun q => match q with
  | (y9, y10) =>
    if (mm.1 1089 3) ≤ y10 then
      some (.inr y9)
    else
      if (f_X12_has y8 y10) = 0 then
        f_X12_riddenBy_j119 mm y1 y2 y3 y4 y5 y6 y7 y8 y10 y9
      else
        if y10 < 0 ∨ 8 ≤ y10.toNatClampNeg then none else
          if (mm.1 1093 y10.toNatClampNeg) = y1 then
            f_X12_riddenBy_j120 mm y1 y2 y3 y4 y5 y6 y7 y8 y10 (1 : Int32) y9
          else
            f_X12_riddenBy_j119 mm y1 y2 y3 y4 y5 y6 y7 y8 y10 y9
noncomputable def f_X12_riddenBy_s17 (mm : Mm) (y1 : Int32) (y2 : Int32) (y6 : Int32) : (Int32 × Int32 × Int32 × Int32) → Option ((Int32 × Int32 × Int32 × Int32) ⊕ (Int32)) :=
  fun q => match q with
  | (y3, y4, y5, y7) =>
    if (mm.1 1089 3) ≤ y7 then
      some (.inr y3)
    else
      if y1 < 0 ∨ 6 ≤ y1.toNatClampNeg then none else
        if (mm.1 1092 y1.toNatClampNeg) = 0 then
          if (f_X12_has y6 y7) = 0 then
            some (.inl (y3, y4, y5, (y7 + 1)))
          else
            if (f_X12_has y5 y7) = 0 then
              bi1 (f_X12_hangsWith mm y7 y6 y2) fun r_12 =>
                bi1 (lp (f_X12_riddenBy_s81 mm y1 y2 y3 y4 (y5 ||| r_12) y6 y7 r_12) ((0 : Int32), (0 : Int32))) fun w9_20 =>
                  if w9_20 ≤ y4 then
                    f_X12_riddenBy_j142 mm y1 y2 y4 (y5 ||| r_12) y6 y7 w9_20 y3
                  else
                    f_X12_riddenBy_j142 mm y1 y2 y4 (y5 ||| r_12) y6 y7 w9_20 r_12
            else
              some (.inl (y3, y4, y5, (y7 + 1)))
        else
          some (.inr y3)
noncomputable def f_X12_riddenBy (mm : Mm) (x1 : Int32) (x2 : Int32) : Option (Int32) :=
  bi1 (f_X12_afloat mm) fun r_2 =>
    bi1 (lp (f_X12_riddenBy_s17 mm x1 x2 r_2) ((0 : Int32), (0 : Int32), (0 : Int32), (0 : Int32))) fun w3_25 =>
      some w3_25
set_option maxHeartbeats 4000000 in
set_option maxRecDepth 100000 in
theorem c_X12_riddenBy (l : Launch) (D : va_G) (dA : Nat → ClassId) (zz : (Nat → Nat) × (Nat → Nat)) (bs : Nat) (mm : Mm) (x1 : Int32) (x2 : Int32) (out : Int32) (hf : f_X12_riddenBy mm x1 x2 = some out) : Mw l D dA zz bs LY yX12_riddenBy cX12_riddenBy 11 (some .int) 2 49 [.ref (bs + 1088), .int x1, .int x2] mm (some (.int out)) mm := by
  refine Mw.of (own := RX12) (by decide) rfl (Nat.le_of_ble_eq_true rfl) ?_
  intro p e s m args below meth c X hr0 hP hS ls hl
  have hx := X.1
  have hb := X.2.1
  obtain ⟨H, hH⟩ : ∃ z : Heap, z = s.heap := ⟨_, rfl⟩
  obtain ⟨locs, hL⟩ : ∃ z : List Loc, z = [] := ⟨_, rfl⟩
  rw [← hH, ← hL]
  have hS : va_S (Aq bs) s.heap H locs := by rw [hH, hL]; exact hS
  have hP : Wd D dA bs LY mm H := by rw [hH]; exact hP
  have hl : lv_has ls 11 [(0, .ref (bs + 1088)), (1, .int x1), (2, .int x2)] := hl
  unfold f_X12_riddenBy at hf
  refine lv_iconst (v := 0) hx hb dX12_riddenBy_0 (by decide) ?_
  refine lv_istore_n (lv' := [(3, .int (0 : Int32)), (0, .ref (bs + 1088)), (1, .int x1), (2, .int x2)]) hx hb dX12_riddenBy_1 rfl hl (by decide) rfl (fun ls hl => ?_)
  refine lv_iconst (v := 0) hx hb dX12_riddenBy_2 (by decide) ?_
  refine lv_istore (lv' := [(4, .int (0 : Int32)), (3, .int (0 : Int32)), (0, .ref (bs + 1088)), (1, .int x1), (2, .int x2)]) hx hb dX12_riddenBy_3 hl (by decide) rfl (fun ls hl => ?_)
  refine lv_iconst (v := 0) hx hb dX12_riddenBy_5 (by decide) ?_
  refine lv_istore (lv' := [(5, .int (0 : Int32)), (4, .int (0 : Int32)), (3, .int (0 : Int32)), (0, .ref (bs + 1088)), (1, .int x1), (2, .int x2)]) hx hb dX12_riddenBy_6 hl (by decide) rfl (fun ls hl => ?_)
  refine lv_aload_n hx hb dX12_riddenBy_8 rfl (lv_at hl 3 rfl) ?_
  obtain ⟨r_2, hc_1, hf⟩ := bi1S hf
  refine wd_cv X hP hS L1088 ml_X12_393 ⟨_, _, rfl⟩ (c_X12_afloat l D dA zz bs mm r_2 hc_1) rfl ⟨Nat.le_of_ble_eq_true rfl, Nat.le_of_ble_eq_true rfl⟩ hl.1 rfl (rest := []) (Nat.le_of_ble_eq_true rfl) ⟨Nat.zero_le _, Nat.zero_le _⟩ dX12_riddenBy_9 (fun H locs hP hS => ?_)
  refine W.eq (g2 := F0 m 12 ls [.int r_2]) rfl ?_
  refine lv_istore (lv' := [(6, .int r_2), (5, .int (0 : Int32)), (4, .int (0 : Int32)), (3, .int (0 : Int32)), (0, .ref (bs + 1088)), (1, .int x1), (2, .int x2)]) hx hb dX12_riddenBy_12 hl (by decide) rfl (fun ls hl => ?_)
  refine lv_iconst (v := 0) hx hb dX12_riddenBy_14 (by decide) ?_
  refine lv_istore (lv' := [(7, .int (0 : Int32)), (6, .int r_2), (5, .int (0 : Int32)), (4, .int (0 : Int32)), (3, .int (0 : Int32)), (0, .ref (bs + 1088)), (1, .int x1), (2, .int x2)]) hx hb dX12_riddenBy_15 hl (by decide) rfl (fun ls hl => ?_)
  obtain ⟨q_26, hlp_27, hf⟩ := bi1S hf
  refine lp_walk (Wh := (fun z => match z with | (y3L_24, y4L_24, y5L_24, y7L_24) => ∀ (H : Heap) (locs : List Loc) (ls : Array Slot), Wd D dA bs LY mm H → va_S (Aq bs) s.heap H locs → lv_has ls 11 [(0, .ref (bs + 1088)), (1, .int x1), (2, .int x2), (3, .int y3L_24), (4, .int y4L_24), (5, .int y5L_24), (6, .int r_2), (7, .int y7L_24)] → Wz p l e s m args below meth c D dA bs (some (.int out)) mm 2 49 H locs 17 ls [])) (Ph := (fun w3_25 => ∀ (H : Heap) (locs : List Loc) (ls : Array Slot), Wd D dA bs LY mm H → va_S (Aq bs) s.heap H locs → lv_has ls 11 [(3, .int w3_25)] → Wz p l e s m args below meth c D dA bs (some (.int out)) mm 2 49 H locs 165 ls [])) ?_ hlp_27 ?_ H locs ls hP hS (lv_sub hl [5, 6, 7, 4, 3, 2, 1, 0] rfl)
  · intro z o hf hB hE
    obtain ⟨y3L_24, y4L_24, y5L_24, y7L_24⟩ := z
    intro H locs ls hP hS hl
    have hf : f_X12_riddenBy_s17 mm x1 x2 r_2 (y3L_24, y4L_24, y5L_24, y7L_24) = some o := hf
    unfold f_X12_riddenBy_s17 at hf
    dsimp only at hf
    have hJ157 : ∀ (y3J_3 : Int32) (y5J_3 : Int32) (y7J_3 : Int32) (z0J_3 : Int32) (H : Heap) (locs : List Loc) (ls : Array Slot), f_X12_riddenBy_j157 mm x1 x2 y3J_3 y5J_3 r_2 y7J_3 z0J_3 = some o → Wd D dA bs LY mm H → va_S (Aq bs) s.heap H locs → lv_has ls 11 [(0, .ref (bs + 1088)), (1, .int x1), (2, .int x2), (3, .int y3J_3), (5, .int y5J_3), (6, .int r_2), (7, .int y7J_3)] → Wz p l e s m args below meth c D dA bs (some (.int out)) mm 2 49 H locs 157 ls [.int z0J_3] := by
      intro y3J_3 y5J_3 y7J_3 z0J_3 H locs ls hf hP hS hl
      unfold f_X12_riddenBy_j157 at hf
      refine lv_istore (lv' := [(4, .int z0J_3), (0, .ref (bs + 1088)), (1, .int x1), (2, .int x2), (3, .int y3J_3), (5, .int y5J_3), (6, .int r_2), (7, .int y7J_3)]) hx hb dX12_riddenBy_157 hl (by decide) rfl (fun ls hl => ?_)
      refine lv_iinc (v := (y7J_3 + 1)) (lv' := [(7, .int (y7J_3 + 1)), (4, .int z0J_3), (0, .ref (bs + 1088)), (1, .int x1), (2, .int x2), (3, .int y3J_3), (5, .int y5J_3), (6, .int r_2)]) hx hb dX12_riddenBy_159 hl (k := 7) rfl rfl (by decide) rfl (fun ls hl => ?_)
      refine lv_goto (tgt := 17) hx hb dX12_riddenBy_162 (by decide) ?_
      obtain rfl := Option.some.inj hf
      exact hB _ rfl H locs ls hP hS (lv_sub hl [2, 3, 4, 5, 1, 6, 7, 0] rfl)
    have hJ142 : ∀ (y4J_5 : Int32) (y5J_5 : Int32) (y7J_5 : Int32) (y9J_5 : Int32) (z0J_5 : Int32) (H : Heap) (locs : List Loc) (ls : Array Slot), f_X12_riddenBy_j142 mm x1 x2 y4J_5 y5J_5 r_2 y7J_5 y9J_5 z0J_5 = some o → Wd D dA bs LY mm H → va_S (Aq bs) s.heap H locs → lv_has ls 11 [(0, .ref (bs + 1088)), (1, .int x1), (2, .int x2), (4, .int y4J_5), (5, .int y5J_5), (6, .int r_2), (7, .int y7J_5), (9, .int y9J_5)] → Wz p l e s m args below meth c D dA bs (some (.int out)) mm 2 49 H locs 142 ls [.int z0J_5] := by
      intro y4J_5 y5J_5 y7J_5 y9J_5 z0J_5 H locs ls hf hP hS hl
      unfold f_X12_riddenBy_j142 at hf
      refine lv_istore_n (lv' := [(3, .int z0J_5), (0, .ref (bs + 1088)), (1, .int x1), (2, .int x2), (4, .int y4J_5), (5, .int y5J_5), (6, .int r_2), (7, .int y7J_5), (9, .int y9J_5)]) hx hb dX12_riddenBy_142 rfl hl (by decide) rfl (fun ls hl => ?_)
      refine lv_iload hx hb dX12_riddenBy_143 (lv_at hl 8 rfl) ?_
      refine lv_iload hx hb dX12_riddenBy_145 (lv_at hl 4 rfl) ?_
      refine lv_icmp_le (tgt := 155) hx hb dX12_riddenBy_147 (by decide) (fun c_4 => ?_) (fun c_4 => ?_)
      · have hf := itT hf c_4
        refine lv_iload hx hb dX12_riddenBy_155 (lv_at hl 4 rfl) ?_
        exact hJ157 z0J_5 y5J_5 y7J_5 y4J_5 H locs ls hf hP hS (lv_sub hl [1, 2, 3, 0, 5, 6, 7] rfl)
      · have hf := itF hf c_4
        refine lv_iload hx hb dX12_riddenBy_150 (lv_at hl 8 rfl) ?_
        refine lv_goto (tgt := 157) hx hb dX12_riddenBy_152 (by decide) ?_
        exact hJ157 z0J_5 y5J_5 y7J_5 y9J_5 H locs ls hf hP hS (lv_sub hl [1, 2, 3, 0, 5, 6, 7] rfl)
    refine lv_iload hx hb dX12_riddenBy_17 (lv_at hl 7 rfl) ?_
    refine lv_aload_n hx hb dX12_riddenBy_19 rfl (lv_at hl 0 rfl) ?_
    refine wd_getR (q := 1089) X hP L1088 fl_X12_9 rfl dX12_riddenBy_20 ?_
    refine lv_iconst (v := 3) hx hb dX12_riddenBy_23 (by decide) ?_
    refine wd_ialdK (k := 3) X hP L1089 (by decide) (by decide) dX12_riddenBy_24 ?_
    refine lv_icmp_ge (tgt := 165) hx hb dX12_riddenBy_25 (by decide) (fun c_6 => ?_) (fun c_6 => ?_)
    · have hf := itT hf c_6
      obtain rfl := Option.some.inj hf
      exact hE _ rfl H locs ls hP hS (lv_sub hl [3] rfl)
    · have hf := itF hf c_6
      refine lv_aload_n hx hb dX12_riddenBy_28 rfl (lv_at hl 0 rfl) ?_
      refine wd_getR (q := 1092) X hP L1088 fl_X12_19 rfl dX12_riddenBy_29 ?_
      refine lv_iload_n hx hb dX12_riddenBy_32 rfl (lv_at hl 1 rfl) ?_
      have g_7 := gdN hf
      have hf := gdK hf
      refine wd_iald X hP L1092 g_7 dX12_riddenBy_33 ?_
      refine lv_if_ne (tgt := 165) hx hb dX12_riddenBy_34 (by decide) (fun c_8 => ?_) (fun c_8 => ?_)
      · have hf := itF hf c_8
        obtain rfl := Option.some.inj hf
        exact hE _ rfl H locs ls hP hS (lv_sub hl [3] rfl)
      · have hf := itT hf c_8
        refine lv_iload hx hb dX12_riddenBy_37 (lv_at hl 6 rfl) ?_
        refine lv_iload hx hb dX12_riddenBy_39 (lv_at hl 7 rfl) ?_
        refine wd_cs X hP hS ml_X12_390 (c_X12_has l D dA zz bs mm r_2 y7L_24 (f_X12_has r_2 y7L_24) rfl) rfl ⟨Nat.le_of_ble_eq_true rfl, Nat.le_of_ble_eq_true rfl⟩ hl.1 rfl (rest := []) (Nat.le_of_ble_eq_true rfl) ⟨Nat.zero_le _, Nat.zero_le _⟩ dX12_riddenBy_41 (fun H locs hP hS => ?_)
        refine W.eq (g2 := F0 m 44 ls [.int (f_X12_has r_2 y7L_24)]) rfl ?_
        refine lv_if_eq (tgt := 159) hx hb dX12_riddenBy_44 (by decide) (fun c_9 => ?_) (fun c_9 => ?_)
        · have hf := itT hf c_9
          refine lv_iinc (v := (y7L_24 + 1)) (lv' := [(7, .int (y7L_24 + 1)), (0, .ref (bs + 1088)), (1, .int x1), (2, .int x2), (3, .int y3L_24), (4, .int y4L_24), (5, .int y5L_24), (6, .int r_2)]) hx hb dX12_riddenBy_159 hl (k := 7) rfl rfl (by decide) rfl (fun ls hl => ?_)
          refine lv_goto (tgt := 17) hx hb dX12_riddenBy_162 (by decide) ?_
          obtain rfl := Option.some.inj hf
          exact hB _ rfl H locs ls hP hS (lv_sub hl [1, 2, 3, 4, 5, 6, 7, 0] rfl)
        · have hf := itF hf c_9
          refine lv_iload hx hb dX12_riddenBy_47 (lv_at hl 5 rfl) ?_
          refine lv_iload hx hb dX12_riddenBy_49 (lv_at hl 7 rfl) ?_
          refine wd_cs X hP hS ml_X12_390 (c_X12_has l D dA zz bs mm y5L_24 y7L_24 (f_X12_has y5L_24 y7L_24) rfl) rfl ⟨Nat.le_of_ble_eq_true rfl, Nat.le_of_ble_eq_true rfl⟩ hl.1 rfl (rest := []) (Nat.le_of_ble_eq_true rfl) ⟨Nat.zero_le _, Nat.zero_le _⟩ dX12_riddenBy_51 (fun H locs hP hS => ?_)
          refine W.eq (g2 := F0 m 54 ls [.int (f_X12_has y5L_24 y7L_24)]) rfl ?_
          refine lv_if_ne (tgt := 159) hx hb dX12_riddenBy_54 (by decide) (fun c_10 => ?_) (fun c_10 => ?_)
          · have hf := itF hf c_10
            refine lv_iinc (v := (y7L_24 + 1)) (lv' := [(7, .int (y7L_24 + 1)), (0, .ref (bs + 1088)), (1, .int x1), (2, .int x2), (3, .int y3L_24), (4, .int y4L_24), (5, .int y5L_24), (6, .int r_2)]) hx hb dX12_riddenBy_159 hl (k := 7) rfl rfl (by decide) rfl (fun ls hl => ?_)
            refine lv_goto (tgt := 17) hx hb dX12_riddenBy_162 (by decide) ?_
            obtain rfl := Option.some.inj hf
            exact hB _ rfl H locs ls hP hS (lv_sub hl [1, 2, 3, 4, 5, 6, 7, 0] rfl)
          · have hf := itT hf c_10
            refine lv_aload_n hx hb dX12_riddenBy_57 rfl (lv_at hl 0 rfl) ?_
            refine lv_iload hx hb dX12_riddenBy_58 (lv_at hl 7 rfl) ?_
            refine lv_iload hx hb dX12_riddenBy_60 (lv_at hl 6 rfl) ?_
            refine lv_iload_n hx hb dX12_riddenBy_62 rfl (lv_at hl 2 rfl) ?_
            obtain ⟨r_12, hc_11, hf⟩ := bi1S hf
            refine wd_cv X hP hS L1088 ml_X12_399 ⟨_, _, rfl⟩ (c_X12_hangsWith l D dA zz bs mm y7L_24 r_2 x2 r_12 hc_11) rfl ⟨Nat.le_of_ble_eq_true rfl, Nat.le_of_ble_eq_true rfl⟩ hl.1 rfl (rest := []) (Nat.le_of_ble_eq_true rfl) ⟨Nat.zero_le _, Nat.zero_le _⟩ dX12_riddenBy_63 (fun H locs hP hS => ?_)
            refine W.eq (g2 := F0 m 66 ls [.int r_12]) rfl ?_
            refine lv_istore (lv' := [(8, .int r_12), (0, .ref (bs + 1088)), (1, .int x1), (2, .int x2), (3, .int y3L_24), (4, .int y4L_24), (5, .int y5L_24), (6, .int r_2), (7, .int y7L_24)]) hx hb dX12_riddenBy_66 hl (by decide) rfl (fun ls hl => ?_)
            refine lv_iload hx hb dX12_riddenBy_68 (lv_at hl 6 rfl) ?_
            refine lv_iload hx hb dX12_riddenBy_70 (lv_at hl 0 rfl) ?_
            refine lv_ior hx hb dX12_riddenBy_72 ?_
            refine lv_istore (lv' := [(5, .int (y5L_24 ||| r_12)), (8, .int r_12), (0, .ref (bs + 1088)), (1, .int x1), (2, .int x2), (3, .int y3L_24), (4, .int y4L_24), (6, .int r_2), (7, .int y7L_24)]) hx hb dX12_riddenBy_73 hl (by decide) rfl (fun ls hl => ?_)
            refine lv_iconst (v := 0) hx hb dX12_riddenBy_75 (by decide) ?_
            refine lv_istore (lv' := [(9, .int (0 : Int32)), (5, .int (y5L_24 ||| r_12)), (8, .int r_12), (0, .ref (bs + 1088)), (1, .int x1), (2, .int x2), (3, .int y3L_24), (4, .int y4L_24), (6, .int r_2), (7, .int y7L_24)]) hx hb dX12_riddenBy_76 hl (by decide) rfl (fun ls hl => ?_)
            refine lv_iconst (v := 0) hx hb dX12_riddenBy_78 (by decide) ?_
            refine lv_istore (lv' := [(10, .int (0 : Int32)), (9, .int (0 : Int32)), (5, .int (y5L_24 ||| r_12)), (8, .int r_12), (0, .ref (bs + 1088)), (1, .int x1), (2, .int x2), (3, .int y3L_24), (4, .int y4L_24), (6, .int r_2), (7, .int y7L_24)]) hx hb dX12_riddenBy_79 hl (by decide) rfl (fun ls hl => ?_)
            obtain ⟨q_22, hlp_23, hf⟩ := bi1S hf
            refine lp_walk (Wh := (fun z => match z with | (y9L_19, y10L_19) => ∀ (H : Heap) (locs : List Loc) (ls : Array Slot), Wd D dA bs LY mm H → va_S (Aq bs) s.heap H locs → lv_has ls 11 [(0, .ref (bs + 1088)), (1, .int x1), (2, .int x2), (3, .int y3L_24), (4, .int y4L_24), (5, .int (y5L_24 ||| r_12)), (6, .int r_2), (7, .int y7L_24), (8, .int r_12), (9, .int y9L_19), (10, .int y10L_19)] → Wz p l e s m args below meth c D dA bs (some (.int out)) mm 2 49 H locs 81 ls [])) (Ph := (fun w9_20 => ∀ (H : Heap) (locs : List Loc) (ls : Array Slot), Wd D dA bs LY mm H → va_S (Aq bs) s.heap H locs → lv_has ls 11 [(0, .ref (bs + 1088)), (1, .int x1), (2, .int x2), (3, .int y3L_24), (4, .int y4L_24), (5, .int (y5L_24 ||| r_12)), (6, .int r_2), (7, .int y7L_24), (8, .int r_12), (9, .int w9_20)] → Wz p l e s m args below meth c D dA bs (some (.int out)) mm 2 49 H locs 129 ls [])) ?_ hlp_23 ?_ H locs ls hP hS (lv_sub hl [4, 5, 6, 7, 8, 2, 9, 10, 3, 1, 0] rfl)
            · intro z o hf hB hE
              obtain ⟨y9L_19, y10L_19⟩ := z
              intro H locs ls hP hS hl
              have hf : f_X12_riddenBy_s81 mm x1 x2 y3L_24 y4L_24 (y5L_24 ||| r_12) r_2 y7L_24 r_12 (y9L_19, y10L_19) = some o := hf
              unfold f_X12_riddenBy_s81 at hf
              dsimp only at hf
              have hJ120 : ∀ (y10J_13 : Int32) (z0J_13 : Int32) (z1J_13 : Int32) (H : Heap) (locs : List Loc) (ls : Array Slot), f_X12_riddenBy_j120 mm x1 x2 y3L_24 y4L_24 (y5L_24 ||| r_12) r_2 y7L_24 r_12 y10J_13 z0J_13 z1J_13 = some o → Wd D dA bs LY mm H → va_S (Aq bs) s.heap H locs → lv_has ls 11 [(0, .ref (bs + 1088)), (1, .int x1), (2, .int x2), (3, .int y3L_24), (4, .int y4L_24), (5, .int (y5L_24 ||| r_12)), (6, .int r_2), (7, .int y7L_24), (8, .int r_12), (10, .int y10J_13)] → Wz p l e s m args below meth c D dA bs (some (.int out)) mm 2 49 H locs 120 ls [.int z0J_13, .int z1J_13] := by
                intro y10J_13 z0J_13 z1J_13 H locs ls hf hP hS hl
                unfold f_X12_riddenBy_j120 at hf
                refine lv_iadd hx hb dX12_riddenBy_120 ?_
                refine lv_istore (lv' := [(9, .int (z1J_13 + z0J_13)), (0, .ref (bs + 1088)), (1, .int x1), (2, .int x2), (3, .int y3L_24), (4, .int y4L_24), (5, .int (y5L_24 ||| r_12)), (6, .int r_2), (7, .int y7L_24), (8, .int r_12), (10, .int y10J_13)]) hx hb dX12_riddenBy_121 hl (by decide) rfl (fun ls hl => ?_)
                refine lv_iinc (v := (y10J_13 + 1)) (lv' := [(10, .int (y10J_13 + 1)), (9, .int (z1J_13 + z0J_13)), (0, .ref (bs + 1088)), (1, .int x1), (2, .int x2), (3, .int y3L_24), (4, .int y4L_24), (5, .int (y5L_24 ||| r_12)), (6, .int r_2), (7, .int y7L_24), (8, .int r_12)]) hx hb dX12_riddenBy_123 hl (k := 10) rfl rfl (by decide) rfl (fun ls hl => ?_)
                refine lv_goto (tgt := 81) hx hb dX12_riddenBy_126 (by decide) ?_
                obtain rfl := Option.some.inj hf
                exact hB _ rfl H locs ls hP hS (lv_sub hl [2, 3, 4, 5, 6, 7, 8, 9, 10, 1, 0] rfl)
              have hJ119 : ∀ (y10J_14 : Int32) (z0J_14 : Int32) (H : Heap) (locs : List Loc) (ls : Array Slot), f_X12_riddenBy_j119 mm x1 x2 y3L_24 y4L_24 (y5L_24 ||| r_12) r_2 y7L_24 r_12 y10J_14 z0J_14 = some o → Wd D dA bs LY mm H → va_S (Aq bs) s.heap H locs → lv_has ls 11 [(0, .ref (bs + 1088)), (1, .int x1), (2, .int x2), (3, .int y3L_24), (4, .int y4L_24), (5, .int (y5L_24 ||| r_12)), (6, .int r_2), (7, .int y7L_24), (8, .int r_12), (10, .int y10J_14)] → Wz p l e s m args below meth c D dA bs (some (.int out)) mm 2 49 H locs 119 ls [.int z0J_14] := by
                intro y10J_14 z0J_14 H locs ls hf hP hS hl
                unfold f_X12_riddenBy_j119 at hf
                refine lv_iconst (v := 0) hx hb dX12_riddenBy_119 (by decide) ?_
                exact hJ120 y10J_14 (0 : Int32) z0J_14 H locs ls hf hP hS (lv_sub hl [0, 1, 2, 3, 4, 5, 6, 7, 8, 9] rfl)
              refine lv_iload hx hb dX12_riddenBy_81 (lv_at hl 10 rfl) ?_
              refine lv_aload_n hx hb dX12_riddenBy_83 rfl (lv_at hl 0 rfl) ?_
              refine wd_getR (q := 1089) X hP L1088 fl_X12_9 rfl dX12_riddenBy_84 ?_
              refine lv_iconst (v := 3) hx hb dX12_riddenBy_87 (by decide) ?_
              refine wd_ialdK (k := 3) X hP L1089 (by decide) (by decide) dX12_riddenBy_88 ?_
              refine lv_icmp_ge (tgt := 129) hx hb dX12_riddenBy_89 (by decide) (fun c_15 => ?_) (fun c_15 => ?_)
              · have hf := itT hf c_15
                obtain rfl := Option.some.inj hf
                exact hE _ rfl H locs ls hP hS (lv_sub hl [0, 1, 2, 3, 4, 5, 6, 7, 8, 9] rfl)
              · have hf := itF hf c_15
                refine lv_iload hx hb dX12_riddenBy_92 (lv_at hl 9 rfl) ?_
                refine lv_iload hx hb dX12_riddenBy_94 (lv_at hl 8 rfl) ?_
                refine lv_iload hx hb dX12_riddenBy_96 (lv_at hl 10 rfl) ?_
                refine wd_cs X hP hS ml_X12_390 (c_X12_has l D dA zz bs mm r_12 y10L_19 (f_X12_has r_12 y10L_19) rfl) rfl ⟨Nat.le_of_ble_eq_true rfl, Nat.le_of_ble_eq_true rfl⟩ hl.1 rfl (rest := [.int y9L_19]) (Nat.le_of_ble_eq_true rfl) ⟨Nat.zero_le _, Nat.zero_le _⟩ dX12_riddenBy_98 (fun H locs hP hS => ?_)
                refine W.eq (g2 := F0 m 101 ls [.int (f_X12_has r_12 y10L_19), .int y9L_19]) rfl ?_
                refine lv_if_eq (tgt := 119) hx hb dX12_riddenBy_101 (by decide) (fun c_16 => ?_) (fun c_16 => ?_)
                · have hf := itT hf c_16
                  exact hJ119 y10L_19 y9L_19 H locs ls hf hP hS (lv_sub hl [0, 1, 2, 3, 4, 5, 6, 7, 8, 10] rfl)
                · have hf := itF hf c_16
                  refine lv_aload_n hx hb dX12_riddenBy_104 rfl (lv_at hl 0 rfl) ?_
                  refine wd_getR (q := 1093) X hP L1088 fl_X12_22 rfl dX12_riddenBy_105 ?_
                  refine lv_iload hx hb dX12_riddenBy_108 (lv_at hl 10 rfl) ?_
                  have g_17 := gdN hf
                  have hf := gdK hf
                  refine wd_iald X hP L1093 g_17 dX12_riddenBy_110 ?_
                  refine lv_iload_n hx hb dX12_riddenBy_111 rfl (lv_at hl 1 rfl) ?_
                  refine lv_icmp_ne (tgt := 119) hx hb dX12_riddenBy_112 (by decide) (fun c_18 => ?_) (fun c_18 => ?_)
                  · have hf := itF hf c_18
                    exact hJ119 y10L_19 y9L_19 H locs ls hf hP hS (lv_sub hl [0, 1, 2, 3, 4, 5, 6, 7, 8, 10] rfl)
                  · have hf := itT hf c_18
                    refine lv_iconst (v := 1) hx hb dX12_riddenBy_115 (by decide) ?_
                    refine lv_goto (tgt := 120) hx hb dX12_riddenBy_116 (by decide) ?_
                    exact hJ120 y10L_19 (1 : Int32) y9L_19 H locs ls hf hP hS (lv_sub hl [0, 1, 2, 3, 4, 5, 6, 7, 8, 10] rfl)
            · obtain ⟨w9_20, e_w9_20⟩ : ∃ z, z = q_22 := ⟨_, rfl⟩
              subst e_w9_20
              intro H locs ls hP hS hl
              refine lv_iload hx hb dX12_riddenBy_129 (lv_at hl 9 rfl) ?_
              refine lv_iload hx hb dX12_riddenBy_131 (lv_at hl 4 rfl) ?_
              refine lv_icmp_le (tgt := 141) hx hb dX12_riddenBy_133 (by decide) (fun c_21 => ?_) (fun c_21 => ?_)
              · have hf := itT hf c_21
                refine lv_iload_n hx hb dX12_riddenBy_141 rfl (lv_at hl 3 rfl) ?_
                exact hJ142 y4L_24 (y5L_24 ||| r_12) y7L_24 w9_20 y3L_24 H locs ls hf hP hS (lv_sub hl [0, 1, 2, 4, 5, 6, 7, 9] rfl)
              · have hf := itF hf c_21
                refine lv_iload hx hb dX12_riddenBy_136 (lv_at hl 8 rfl) ?_
                refine lv_goto (tgt := 142) hx hb dX12_riddenBy_138 (by decide) ?_
                exact hJ142 y4L_24 (y5L_24 ||| r_12) y7L_24 w9_20 r_12 H locs ls hf hP hS (lv_sub hl [0, 1, 2, 4, 5, 6, 7, 9] rfl)
  · obtain ⟨w3_25, e_w3_25⟩ : ∃ z, z = q_26 := ⟨_, rfl⟩
    subst e_w3_25
    intro H locs ls hP hS hl
    refine lv_iload_n hx hb dX12_riddenBy_165 rfl (lv_at hl 0 rfl) ?_
    obtain rfl := Option.some.inj hf
    exact wd_iret X hP hS hr0 dX12_riddenBy_166 ⟨rfl, rfl⟩

noncomputable def f_X12_floatOf_j33 (mm : Mm) (y1 : Int32) (y3 : Int32) (z0 : Int32) (z1 : Int32) : Option ((Int32 × Int32) ⊕ (Int32)) :=
  some (.inl ((z1 + z0), (y3 + 1)))
noncomputable def f_X12_floatOf_s4 (mm : Mm) (y1 : Int32) : (Int32 × Int32) → Option ((Int32 × Int32) ⊕ (Int32)) :=
  fun q => match q with
  | (y2, y3) =>
    if (mm.1 1089 3) ≤ y3 then
      some (.inr y2)
    else
      if (f_X12_has y1 y3) = 0 then
        f_X12_floatOf_j33 mm y1 y3 (0 : Int32) y2
      else
        if y3 < 0 ∨ 8 ≤ y3.toNatClampNeg then none else f_X12_floatOf_j33 mm y1 y3 (mm.1 1095 y3.toNatClampNeg) y2
noncomputable def f_X12_floatOf (mm : Mm) (x1 : Int32) : Option (Int32) :=
  bi1 (lp (f_X12_floatOf_s4 mm x1) ((0 : Int32), (0 : Int32))) fun w2_6 =>
    some w2_6
set_option maxHeartbeats 4000000 in
set_option maxRecDepth 100000 in
theorem c_X12_floatOf (l : Launch) (D : va_G) (dA : Nat → ClassId) (zz : (Nat → Nat) × (Nat → Nat)) (bs : Nat) (mm : Mm) (x1 : Int32) (out : Int32) (hf : f_X12_floatOf mm x1 = some out) : Mw l D dA zz bs LY yX12_floatOf cX12_floatOf 4 (some .int) 1 21 [.ref (bs + 1088), .int x1] mm (some (.int out)) mm := by
  refine Mw.of (own := RX12) (by decide) rfl (Nat.le_of_ble_eq_true rfl) ?_
  intro p e s m args below meth c X hr0 hP hS ls hl
  have hx := X.1
  have hb := X.2.1
  obtain ⟨H, hH⟩ : ∃ z : Heap, z = s.heap := ⟨_, rfl⟩
  obtain ⟨locs, hL⟩ : ∃ z : List Loc, z = [] := ⟨_, rfl⟩
  rw [← hH, ← hL]
  have hS : va_S (Aq bs) s.heap H locs := by rw [hH, hL]; exact hS
  have hP : Wd D dA bs LY mm H := by rw [hH]; exact hP
  have hl : lv_has ls 4 [(0, .ref (bs + 1088)), (1, .int x1)] := hl
  unfold f_X12_floatOf at hf
  refine lv_iconst (v := 0) hx hb dX12_floatOf_0 (by decide) ?_
  refine lv_istore_n (lv' := [(2, .int (0 : Int32)), (0, .ref (bs + 1088)), (1, .int x1)]) hx hb dX12_floatOf_1 rfl hl (by decide) rfl (fun ls hl => ?_)
  refine lv_iconst (v := 0) hx hb dX12_floatOf_2 (by decide) ?_
  refine lv_istore_n (lv' := [(3, .int (0 : Int32)), (2, .int (0 : Int32)), (0, .ref (bs + 1088)), (1, .int x1)]) hx hb dX12_floatOf_3 rfl hl (by decide) rfl (fun ls hl => ?_)
  obtain ⟨q_7, hlp_8, hf⟩ := bi1S hf
  refine lp_walk (Wh := (fun z => match z with | (y2L_5, y3L_5) => ∀ (H : Heap) (locs : List Loc) (ls : Array Slot), Wd D dA bs LY mm H → va_S (Aq bs) s.heap H locs → lv_has ls 4 [(0, .ref (bs + 1088)), (1, .int x1), (2, .int y2L_5), (3, .int y3L_5)] → Wz p l e s m args below meth c D dA bs (some (.int out)) mm 1 21 H locs 4 ls [])) (Ph := (fun w2_6 => ∀ (H : Heap) (locs : List Loc) (ls : Array Slot), Wd D dA bs LY mm H → va_S (Aq bs) s.heap H locs → lv_has ls 4 [(2, .int w2_6)] → Wz p l e s m args below meth c D dA bs (some (.int out)) mm 1 21 H locs 41 ls [])) ?_ hlp_8 ?_ H locs ls hP hS (lv_sub hl [2, 3, 1, 0] rfl)
  · intro z o hf hB hE
    obtain ⟨y2L_5, y3L_5⟩ := z
    intro H locs ls hP hS hl
    have hf : f_X12_floatOf_s4 mm x1 (y2L_5, y3L_5) = some o := hf
    unfold f_X12_floatOf_s4 at hf
    dsimp only at hf
    have hJ33 : ∀ (y3J_1 : Int32) (z0J_1 : Int32) (z1J_1 : Int32) (H : Heap) (locs : List Loc) (ls : Array Slot), f_X12_floatOf_j33 mm x1 y3J_1 z0J_1 z1J_1 = some o → Wd D dA bs LY mm H → va_S (Aq bs) s.heap H locs → lv_has ls 4 [(0, .ref (bs + 1088)), (1, .int x1), (3, .int y3J_1)] → Wz p l e s m args below meth c D dA bs (some (.int out)) mm 1 21 H locs 33 ls [.int z0J_1, .int z1J_1] := by
      intro y3J_1 z0J_1 z1J_1 H locs ls hf hP hS hl
      unfold f_X12_floatOf_j33 at hf
      refine lv_iadd hx hb dX12_floatOf_33 ?_
      refine lv_istore_n (lv' := [(2, .int (z1J_1 + z0J_1)), (0, .ref (bs + 1088)), (1, .int x1), (3, .int y3J_1)]) hx hb dX12_floatOf_34 rfl hl (by decide) rfl (fun ls hl => ?_)
      refine lv_iinc (v := (y3J_1 + 1)) (lv' := [(3, .int (y3J_1 + 1)), (2, .int (z1J_1 + z0J_1)), (0, .ref (bs + 1088)), (1, .int x1)]) hx hb dX12_floatOf_35 hl (k := 3) rfl rfl (by decide) rfl (fun ls hl => ?_)
      refine lv_goto (tgt := 4) hx hb dX12_floatOf_38 (by decide) ?_
      obtain rfl := Option.some.inj hf
      exact hB _ rfl H locs ls hP hS (lv_sub hl [2, 3, 1, 0] rfl)
    refine lv_iload_n hx hb dX12_floatOf_4 rfl (lv_at hl 3 rfl) ?_
    refine lv_aload_n hx hb dX12_floatOf_5 rfl (lv_at hl 0 rfl) ?_
    refine wd_getR (q := 1089) X hP L1088 fl_X12_9 rfl dX12_floatOf_6 ?_
    refine lv_iconst (v := 3) hx hb dX12_floatOf_9 (by decide) ?_
    refine wd_ialdK (k := 3) X hP L1089 (by decide) (by decide) dX12_floatOf_10 ?_
    refine lv_icmp_ge (tgt := 41) hx hb dX12_floatOf_11 (by decide) (fun c_2 => ?_) (fun c_2 => ?_)
    · have hf := itT hf c_2
      obtain rfl := Option.some.inj hf
      exact hE _ rfl H locs ls hP hS (lv_sub hl [2] rfl)
    · have hf := itF hf c_2
      refine lv_iload_n hx hb dX12_floatOf_14 rfl (lv_at hl 2 rfl) ?_
      refine lv_iload_n hx hb dX12_floatOf_15 rfl (lv_at hl 1 rfl) ?_
      refine lv_iload_n hx hb dX12_floatOf_16 rfl (lv_at hl 3 rfl) ?_
      refine wd_cs X hP hS ml_X12_390 (c_X12_has l D dA zz bs mm x1 y3L_5 (f_X12_has x1 y3L_5) rfl) rfl ⟨Nat.le_of_ble_eq_true rfl, Nat.le_of_ble_eq_true rfl⟩ hl.1 rfl (rest := [.int y2L_5]) (Nat.le_of_ble_eq_true rfl) ⟨Nat.zero_le _, Nat.zero_le _⟩ dX12_floatOf_17 (fun H locs hP hS => ?_)
      refine W.eq (g2 := F0 m 20 ls [.int (f_X12_has x1 y3L_5), .int y2L_5]) rfl ?_
      refine lv_if_eq (tgt := 32) hx hb dX12_floatOf_20 (by decide) (fun c_3 => ?_) (fun c_3 => ?_)
      · have hf := itT hf c_3
        refine lv_iconst (v := 0) hx hb dX12_floatOf_32 (by decide) ?_
        exact hJ33 y3L_5 (0 : Int32) y2L_5 H locs ls hf hP hS (lv_sub hl [0, 1, 3] rfl)
      · have hf := itF hf c_3
        refine lv_aload_n hx hb dX12_floatOf_23 rfl (lv_at hl 0 rfl) ?_
        refine wd_getR (q := 1095) X hP L1088 fl_X12_28 rfl dX12_floatOf_24 ?_
        refine lv_iload_n hx hb dX12_floatOf_27 rfl (lv_at hl 3 rfl) ?_
        have g_4 := gdN hf
        have hf := gdK hf
        refine wd_iald X hP L1095 g_4 dX12_floatOf_28 ?_
        refine lv_goto (tgt := 33) hx hb dX12_floatOf_29 (by decide) ?_
        exact hJ33 y3L_5 (mm.1 1095 y3L_5.toNatClampNeg) y2L_5 H locs ls hf hP hS (lv_sub hl [0, 1, 3] rfl)
  · obtain ⟨w2_6, e_w2_6⟩ : ∃ z, z = q_7 := ⟨_, rfl⟩
    subst e_w2_6
    intro H locs ls hP hS hl
    refine lv_iload_n hx hb dX12_floatOf_41 rfl (lv_at hl 0 rfl) ?_
    obtain rfl := Option.some.inj hf
    exact wd_iret X hP hS hr0 dX12_floatOf_42 ⟨rfl, rfl⟩

noncomputable def f_X12_weightOf_j33 (mm : Mm) (y1 : Int32) (y3 : Int32) (z0 : Int32) (z1 : Int32) : Option ((Int32 × Int32) ⊕ (Int32)) :=
  some (.inl ((z1 + z0), (y3 + 1)))
noncomputable def f_X12_weightOf_s4 (mm : Mm) (y1 : Int32) : (Int32 × Int32) → Option ((Int32 × Int32) ⊕ (Int32)) :=
  fun q => match q with
  | (y2, y3) =>
    if (mm.1 1089 3) ≤ y3 then
      some (.inr y2)
    else
      if (f_X12_has y1 y3) = 0 then
        f_X12_weightOf_j33 mm y1 y3 (0 : Int32) y2
      else
        if y3 < 0 ∨ 8 ≤ y3.toNatClampNeg then none else f_X12_weightOf_j33 mm y1 y3 (mm.1 1094 y3.toNatClampNeg) y2
noncomputable def f_X12_weightOf (mm : Mm) (x1 : Int32) : Option (Int32) :=
  bi1 (lp (f_X12_weightOf_s4 mm x1) ((0 : Int32), (0 : Int32))) fun w2_6 =>
    some w2_6
set_option maxHeartbeats 4000000 in
set_option maxRecDepth 100000 in
theorem c_X12_weightOf (l : Launch) (D : va_G) (dA : Nat → ClassId) (zz : (Nat → Nat) × (Nat → Nat)) (bs : Nat) (mm : Mm) (x1 : Int32) (out : Int32) (hf : f_X12_weightOf mm x1 = some out) : Mw l D dA zz bs LY yX12_weightOf cX12_weightOf 4 (some .int) 1 21 [.ref (bs + 1088), .int x1] mm (some (.int out)) mm := by
  refine Mw.of (own := RX12) (by decide) rfl (Nat.le_of_ble_eq_true rfl) ?_
  intro p e s m args below meth c X hr0 hP hS ls hl
  have hx := X.1
  have hb := X.2.1
  obtain ⟨H, hH⟩ : ∃ z : Heap, z = s.heap := ⟨_, rfl⟩
  obtain ⟨locs, hL⟩ : ∃ z : List Loc, z = [] := ⟨_, rfl⟩
  rw [← hH, ← hL]
  have hS : va_S (Aq bs) s.heap H locs := by rw [hH, hL]; exact hS
  have hP : Wd D dA bs LY mm H := by rw [hH]; exact hP
  have hl : lv_has ls 4 [(0, .ref (bs + 1088)), (1, .int x1)] := hl
  unfold f_X12_weightOf at hf
  refine lv_iconst (v := 0) hx hb dX12_weightOf_0 (by decide) ?_
  refine lv_istore_n (lv' := [(2, .int (0 : Int32)), (0, .ref (bs + 1088)), (1, .int x1)]) hx hb dX12_weightOf_1 rfl hl (by decide) rfl (fun ls hl => ?_)
  refine lv_iconst (v := 0) hx hb dX12_weightOf_2 (by decide) ?_
  refine lv_istore_n (lv' := [(3, .int (0 : Int32)), (2, .int (0 : Int32)), (0, .ref (bs + 1088)), (1, .int x1)]) hx hb dX12_weightOf_3 rfl hl (by decide) rfl (fun ls hl => ?_)
  obtain ⟨q_7, hlp_8, hf⟩ := bi1S hf
  refine lp_walk (Wh := (fun z => match z with | (y2L_5, y3L_5) => ∀ (H : Heap) (locs : List Loc) (ls : Array Slot), Wd D dA bs LY mm H → va_S (Aq bs) s.heap H locs → lv_has ls 4 [(0, .ref (bs + 1088)), (1, .int x1), (2, .int y2L_5), (3, .int y3L_5)] → Wz p l e s m args below meth c D dA bs (some (.int out)) mm 1 21 H locs 4 ls [])) (Ph := (fun w2_6 => ∀ (H : Heap) (locs : List Loc) (ls : Array Slot), Wd D dA bs LY mm H → va_S (Aq bs) s.heap H locs → lv_has ls 4 [(2, .int w2_6)] → Wz p l e s m args below meth c D dA bs (some (.int out)) mm 1 21 H locs 41 ls [])) ?_ hlp_8 ?_ H locs ls hP hS (lv_sub hl [2, 3, 1, 0] rfl)
  · intro z o hf hB hE
    obtain ⟨y2L_5, y3L_5⟩ := z
    intro H locs ls hP hS hl
    have hf : f_X12_weightOf_s4 mm x1 (y2L_5, y3L_5) = some o := hf
    unfold f_X12_weightOf_s4 at hf
    dsimp only at hf
    have hJ33 : ∀ (y3J_1 : Int32) (z0J_1 : Int32) (z1J_1 : Int32) (H : Heap) (locs : List Loc) (ls : Array Slot), f_X12_weightOf_j33 mm x1 y3J_1 z0J_1 z1J_1 = some o → Wd D dA bs LY mm H → va_S (Aq bs) s.heap H locs → lv_has ls 4 [(0, .ref (bs + 1088)), (1, .int x1), (3, .int y3J_1)] → Wz p l e s m args below meth c D dA bs (some (.int out)) mm 1 21 H locs 33 ls [.int z0J_1, .int z1J_1] := by
      intro y3J_1 z0J_1 z1J_1 H locs ls hf hP hS hl
      unfold f_X12_weightOf_j33 at hf
      refine lv_iadd hx hb dX12_weightOf_33 ?_
      refine lv_istore_n (lv' := [(2, .int (z1J_1 + z0J_1)), (0, .ref (bs + 1088)), (1, .int x1), (3, .int y3J_1)]) hx hb dX12_weightOf_34 rfl hl (by decide) rfl (fun ls hl => ?_)
      refine lv_iinc (v := (y3J_1 + 1)) (lv' := [(3, .int (y3J_1 + 1)), (2, .int (z1J_1 + z0J_1)), (0, .ref (bs + 1088)), (1, .int x1)]) hx hb dX12_weightOf_35 hl (k := 3) rfl rfl (by decide) rfl (fun ls hl => ?_)
      refine lv_goto (tgt := 4) hx hb dX12_weightOf_38 (by decide) ?_
      obtain rfl := Option.some.inj hf
      exact hB _ rfl H locs ls hP hS (lv_sub hl [2, 3, 1, 0] rfl)
    refine lv_iload_n hx hb dX12_weightOf_4 rfl (lv_at hl 3 rfl) ?_
    refine lv_aload_n hx hb dX12_weightOf_5 rfl (lv_at hl 0 rfl) ?_
    refine wd_getR (q := 1089) X hP L1088 fl_X12_9 rfl dX12_weightOf_6 ?_
    refine lv_iconst (v := 3) hx hb dX12_weightOf_9 (by decide) ?_
    refine wd_ialdK (k := 3) X hP L1089 (by decide) (by decide) dX12_weightOf_10 ?_
    refine lv_icmp_ge (tgt := 41) hx hb dX12_weightOf_11 (by decide) (fun c_2 => ?_) (fun c_2 => ?_)
    · have hf := itT hf c_2
      obtain rfl := Option.some.inj hf
      exact hE _ rfl H locs ls hP hS (lv_sub hl [2] rfl)
    · have hf := itF hf c_2
      refine lv_iload_n hx hb dX12_weightOf_14 rfl (lv_at hl 2 rfl) ?_
      refine lv_iload_n hx hb dX12_weightOf_15 rfl (lv_at hl 1 rfl) ?_
      refine lv_iload_n hx hb dX12_weightOf_16 rfl (lv_at hl 3 rfl) ?_
      refine wd_cs X hP hS ml_X12_390 (c_X12_has l D dA zz bs mm x1 y3L_5 (f_X12_has x1 y3L_5) rfl) rfl ⟨Nat.le_of_ble_eq_true rfl, Nat.le_of_ble_eq_true rfl⟩ hl.1 rfl (rest := [.int y2L_5]) (Nat.le_of_ble_eq_true rfl) ⟨Nat.zero_le _, Nat.zero_le _⟩ dX12_weightOf_17 (fun H locs hP hS => ?_)
      refine W.eq (g2 := F0 m 20 ls [.int (f_X12_has x1 y3L_5), .int y2L_5]) rfl ?_
      refine lv_if_eq (tgt := 32) hx hb dX12_weightOf_20 (by decide) (fun c_3 => ?_) (fun c_3 => ?_)
      · have hf := itT hf c_3
        refine lv_iconst (v := 0) hx hb dX12_weightOf_32 (by decide) ?_
        exact hJ33 y3L_5 (0 : Int32) y2L_5 H locs ls hf hP hS (lv_sub hl [0, 1, 3] rfl)
      · have hf := itF hf c_3
        refine lv_aload_n hx hb dX12_weightOf_23 rfl (lv_at hl 0 rfl) ?_
        refine wd_getR (q := 1094) X hP L1088 fl_X12_25 rfl dX12_weightOf_24 ?_
        refine lv_iload_n hx hb dX12_weightOf_27 rfl (lv_at hl 3 rfl) ?_
        have g_4 := gdN hf
        have hf := gdK hf
        refine wd_iald X hP L1094 g_4 dX12_weightOf_28 ?_
        refine lv_goto (tgt := 33) hx hb dX12_weightOf_29 (by decide) ?_
        exact hJ33 y3L_5 (mm.1 1094 y3L_5.toNatClampNeg) y2L_5 H locs ls hf hP hS (lv_sub hl [0, 1, 3] rfl)
  · obtain ⟨w2_6, e_w2_6⟩ : ∃ z, z = q_7 := ⟨_, rfl⟩
    subst e_w2_6
    intro H locs ls hP hS hl
    refine lv_iload_n hx hb dX12_weightOf_41 rfl (lv_at hl 0 rfl) ?_
    obtain rfl := Option.some.inj hf
    exact wd_iret X hP hS hr0 dX12_weightOf_42 ⟨rfl, rfl⟩

noncomputable def f_X12_ridersOf_j39 (mm : Mm) (y1 : Int32) (y2 : Int32) (y4 : Int32) (z0 : Int32) (z1 : Int32) : Option ((Int32 × Int32) ⊕ (Int32)) :=
  some (.inl ((z1 + z0), (y4 + 1)))
noncomputable def f_X12_ridersOf_s5 (mm : Mm) (y1 : Int32) (y2 : Int32) : (Int32 × Int32) → Option ((Int32 × Int32) ⊕ (Int32)) :=
  fun q => match q with
  | (y3, y4) =>
    if (mm.1 1089 2) ≤ y4 then
      some (.inr y3)
    else
      bi1 (f_X12_riddenBy mm y4 y2) fun r_4 =>
        if r_4 = y1 then
          if y4 < 0 ∨ 6 ≤ y4.toNatClampNeg then none else
            f_X12_ridersOf_j39 mm y1 y2 y4 (mm.1 1091 y4.toNatClampNeg) y3
        else
          f_X12_ridersOf_j39 mm y1 y2 y4 (0 : Int32) y3
noncomputable def f_X12_ridersOf (mm : Mm) (x1 : Int32) (x2 : Int32) : Option (Int32) :=
  bi1 (lp (f_X12_ridersOf_s5 mm x1 x2) ((0 : Int32), (0 : Int32))) fun w3_8 =>
    some w3_8
set_option maxHeartbeats 4000000 in
set_option maxRecDepth 100000 in
theorem c_X12_ridersOf (l : Launch) (D : va_G) (dA : Nat → ClassId) (zz : (Nat → Nat) × (Nat → Nat)) (bs : Nat) (mm : Mm) (x1 : Int32) (x2 : Int32) (out : Int32) (hf : f_X12_ridersOf mm x1 x2 = some out) : Mw l D dA zz bs LY yX12_ridersOf cX12_ridersOf 5 (some .int) 3 79 [.ref (bs + 1088), .int x1, .int x2] mm (some (.int out)) mm := by
  refine Mw.of (own := RX12) (by decide) rfl (Nat.le_of_ble_eq_true rfl) ?_
  intro p e s m args below meth c X hr0 hP hS ls hl
  have hx := X.1
  have hb := X.2.1
  obtain ⟨H, hH⟩ : ∃ z : Heap, z = s.heap := ⟨_, rfl⟩
  obtain ⟨locs, hL⟩ : ∃ z : List Loc, z = [] := ⟨_, rfl⟩
  rw [← hH, ← hL]
  have hS : va_S (Aq bs) s.heap H locs := by rw [hH, hL]; exact hS
  have hP : Wd D dA bs LY mm H := by rw [hH]; exact hP
  have hl : lv_has ls 5 [(0, .ref (bs + 1088)), (1, .int x1), (2, .int x2)] := hl
  unfold f_X12_ridersOf at hf
  refine lv_iconst (v := 0) hx hb dX12_ridersOf_0 (by decide) ?_
  refine lv_istore_n (lv' := [(3, .int (0 : Int32)), (0, .ref (bs + 1088)), (1, .int x1), (2, .int x2)]) hx hb dX12_ridersOf_1 rfl hl (by decide) rfl (fun ls hl => ?_)
  refine lv_iconst (v := 0) hx hb dX12_ridersOf_2 (by decide) ?_
  refine lv_istore (lv' := [(4, .int (0 : Int32)), (3, .int (0 : Int32)), (0, .ref (bs + 1088)), (1, .int x1), (2, .int x2)]) hx hb dX12_ridersOf_3 hl (by decide) rfl (fun ls hl => ?_)
  obtain ⟨q_9, hlp_10, hf⟩ := bi1S hf
  refine lp_walk (Wh := (fun z => match z with | (y3L_7, y4L_7) => ∀ (H : Heap) (locs : List Loc) (ls : Array Slot), Wd D dA bs LY mm H → va_S (Aq bs) s.heap H locs → lv_has ls 5 [(0, .ref (bs + 1088)), (1, .int x1), (2, .int x2), (3, .int y3L_7), (4, .int y4L_7)] → Wz p l e s m args below meth c D dA bs (some (.int out)) mm 3 79 H locs 5 ls [])) (Ph := (fun w3_8 => ∀ (H : Heap) (locs : List Loc) (ls : Array Slot), Wd D dA bs LY mm H → va_S (Aq bs) s.heap H locs → lv_has ls 5 [(3, .int w3_8)] → Wz p l e s m args below meth c D dA bs (some (.int out)) mm 3 79 H locs 47 ls [])) ?_ hlp_10 ?_ H locs ls hP hS (lv_sub hl [2, 3, 4, 1, 0] rfl)
  · intro z o hf hB hE
    obtain ⟨y3L_7, y4L_7⟩ := z
    intro H locs ls hP hS hl
    have hf : f_X12_ridersOf_s5 mm x1 x2 (y3L_7, y4L_7) = some o := hf
    unfold f_X12_ridersOf_s5 at hf
    dsimp only at hf
    have hJ39 : ∀ (y4J_1 : Int32) (z0J_1 : Int32) (z1J_1 : Int32) (H : Heap) (locs : List Loc) (ls : Array Slot), f_X12_ridersOf_j39 mm x1 x2 y4J_1 z0J_1 z1J_1 = some o → Wd D dA bs LY mm H → va_S (Aq bs) s.heap H locs → lv_has ls 5 [(0, .ref (bs + 1088)), (1, .int x1), (2, .int x2), (4, .int y4J_1)] → Wz p l e s m args below meth c D dA bs (some (.int out)) mm 3 79 H locs 39 ls [.int z0J_1, .int z1J_1] := by
      intro y4J_1 z0J_1 z1J_1 H locs ls hf hP hS hl
      unfold f_X12_ridersOf_j39 at hf
      refine lv_iadd hx hb dX12_ridersOf_39 ?_
      refine lv_istore_n (lv' := [(3, .int (z1J_1 + z0J_1)), (0, .ref (bs + 1088)), (1, .int x1), (2, .int x2), (4, .int y4J_1)]) hx hb dX12_ridersOf_40 rfl hl (by decide) rfl (fun ls hl => ?_)
      refine lv_iinc (v := (y4J_1 + 1)) (lv' := [(4, .int (y4J_1 + 1)), (3, .int (z1J_1 + z0J_1)), (0, .ref (bs + 1088)), (1, .int x1), (2, .int x2)]) hx hb dX12_ridersOf_41 hl (k := 4) rfl rfl (by decide) rfl (fun ls hl => ?_)
      refine lv_goto (tgt := 5) hx hb dX12_ridersOf_44 (by decide) ?_
      obtain rfl := Option.some.inj hf
      exact hB _ rfl H locs ls hP hS (lv_sub hl [2, 3, 4, 1, 0] rfl)
    refine lv_iload hx hb dX12_ridersOf_5 (lv_at hl 4 rfl) ?_
    refine lv_aload_n hx hb dX12_ridersOf_7 rfl (lv_at hl 0 rfl) ?_
    refine wd_getR (q := 1089) X hP L1088 fl_X12_9 rfl dX12_ridersOf_8 ?_
    refine lv_iconst (v := 2) hx hb dX12_ridersOf_11 (by decide) ?_
    refine wd_ialdK (k := 2) X hP L1089 (by decide) (by decide) dX12_ridersOf_12 ?_
    refine lv_icmp_ge (tgt := 47) hx hb dX12_ridersOf_13 (by decide) (fun c_2 => ?_) (fun c_2 => ?_)
    · have hf := itT hf c_2
      obtain rfl := Option.some.inj hf
      exact hE _ rfl H locs ls hP hS (lv_sub hl [3] rfl)
    · have hf := itF hf c_2
      refine lv_iload_n hx hb dX12_ridersOf_16 rfl (lv_at hl 3 rfl) ?_
      refine lv_aload_n hx hb dX12_ridersOf_17 rfl (lv_at hl 0 rfl) ?_
      refine lv_iload hx hb dX12_ridersOf_18 (lv_at hl 4 rfl) ?_
      refine lv_iload_n hx hb dX12_ridersOf_20 rfl (lv_at hl 2 rfl) ?_
      obtain ⟨r_4, hc_3, hf⟩ := bi1S hf
      refine wd_cv X hP hS L1088 ml_X12_403 ⟨_, _, rfl⟩ (c_X12_riddenBy l D dA zz bs mm y4L_7 x2 r_4 hc_3) rfl ⟨Nat.le_of_ble_eq_true rfl, Nat.le_of_ble_eq_true rfl⟩ hl.1 rfl (rest := [.int y3L_7]) (Nat.le_of_ble_eq_true rfl) ⟨Nat.zero_le _, Nat.zero_le _⟩ dX12_ridersOf_21 (fun H locs hP hS => ?_)
      refine W.eq (g2 := F0 m 24 ls [.int r_4, .int y3L_7]) rfl ?_
      refine lv_iload_n hx hb dX12_ridersOf_24 rfl (lv_at hl 1 rfl) ?_
      refine lv_icmp_ne (tgt := 38) hx hb dX12_ridersOf_25 (by decide) (fun c_5 => ?_) (fun c_5 => ?_)
      · have hf := itF hf c_5
        refine lv_iconst (v := 0) hx hb dX12_ridersOf_38 (by decide) ?_
        exact hJ39 y4L_7 (0 : Int32) y3L_7 H locs ls hf hP hS (lv_sub hl [0, 1, 2, 4] rfl)
      · have hf := itT hf c_5
        refine lv_aload_n hx hb dX12_ridersOf_28 rfl (lv_at hl 0 rfl) ?_
        refine wd_getR (q := 1091) X hP L1088 fl_X12_16 rfl dX12_ridersOf_29 ?_
        refine lv_iload hx hb dX12_ridersOf_32 (lv_at hl 4 rfl) ?_
        have g_6 := gdN hf
        have hf := gdK hf
        refine wd_iald X hP L1091 g_6 dX12_ridersOf_34 ?_
        refine lv_goto (tgt := 39) hx hb dX12_ridersOf_35 (by decide) ?_
        exact hJ39 y4L_7 (mm.1 1091 y4L_7.toNatClampNeg) y3L_7 H locs ls hf hP hS (lv_sub hl [0, 1, 2, 4] rfl)
  · obtain ⟨w3_8, e_w3_8⟩ : ∃ z, z = q_9 := ⟨_, rfl⟩
    subst e_w3_8
    intro H locs ls hP hS hl
    refine lv_iload_n hx hb dX12_ridersOf_47 rfl (lv_at hl 0 rfl) ?_
    obtain rfl := Option.some.inj hf
    exact wd_iret X hP hS hr0 dX12_ridersOf_48 ⟨rfl, rfl⟩
