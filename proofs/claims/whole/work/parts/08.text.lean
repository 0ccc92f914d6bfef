/-! TEXT CONSTANTS: length and charAt -/
theorem ml_J0_335 : MLv RJ0 335 yJ0_coder_7d493 cJ0_coder_7d493 1 (some .byte) 0 := ⟨⟨⟨(tb_at 15 (by decide +kernel) (by decide +kernel)), (tb_at 556 (by decide +kernel) (by decide +kernel))⟩, by decide, by decide, by decide +kernel⟩, (tb_at 553 (by decide +kernel) (by decide +kernel)), (tb_at 554 (by decide +kernel) (by decide +kernel)), (tb_at 555 (by decide +kernel) (by decide +kernel))⟩
theorem ml_J0_492 : MLv RJ0 492 yJ0_isLatin1_aae02 cJ0_isLatin1_aae02 1 (some .boolean) 0 := ⟨⟨⟨(tb_at 15 (by decide +kernel) (by decide +kernel)), (tb_at 566 (by decide +kernel) (by decide +kernel))⟩, by decide, by decide, by decide +kernel⟩, (tb_at 563 (by decide +kernel) (by decide +kernel)), (tb_at 564 (by decide +kernel) (by decide +kernel)), (tb_at 565 (by decide +kernel) (by decide +kernel))⟩
theorem ml_J0_495 : MLs RJ0 495 yJ1_charAt_3b067 cJ1_charAt_3b067 2 (some .char) 2 := ⟨⟨⟨(tb_at 16 (by decide +kernel) (by decide +kernel)), (tb_at 569 (by decide +kernel) (by decide +kernel))⟩, by decide, by decide, by decide +kernel⟩, (tb_at 567 (by decide +kernel) (by decide +kernel)), (tb_at 568 (by decide +kernel) (by decide +kernel))⟩
theorem ml_J1_9 : MLs RJ1 9 yJ0_checkIndex_df160 cJ0_checkIndex_df160 2 none 2 := ⟨⟨⟨(tb_at 15 (by decide +kernel) (by decide +kernel)), (tb_at 572 (by decide +kernel) (by decide +kernel))⟩, by decide, by decide, by decide +kernel⟩, (tb_at 570 (by decide +kernel) (by decide +kernel)), (tb_at 571 (by decide +kernel) (by decide +kernel))⟩
theorem ml_J0_1059 : MLs RJ0 1059 yJ3_checkIndex_8e157 cJ3_checkIndex_8e157 3 (some .int) 3 := ⟨⟨⟨(tb_at 17 (by decide +kernel) (by decide +kernel)), (tb_at 577 (by decide +kernel) (by decide +kernel))⟩, by decide, by decide, by decide +kernel⟩, (tb_at 575 (by decide +kernel) (by decide +kernel)), (tb_at 576 (by decide +kernel) (by decide +kernel))⟩
theorem kf_J0_38 : Cond.fieldLink RJ0 38 "java/lang/String" "COMPACT_STRINGS" "Z" ∈ gt := (tb_at 557 (by decide +kernel) (by decide +kernel))
theorem kf_J0_1053 : Cond.fieldLink RJ0 1053 "jdk/internal/util/Preconditions" "SIOOBE_FORMATTER" "Ljava/util/function/BiFunction;" ∈ gt := (tb_at 573 (by decide +kernel) (by decide +kernel))
theorem kf_J0_9 : Cond.fieldLink RJ0 9 "java/lang/String" "value" "[B" ∈ gt := (tb_at 1894 (by decide +kernel) (by decide +kernel))
theorem kf_J0_15 : Cond.fieldLink RJ0 15 "java/lang/String" "coder" "B" ∈ gt := (tb_at 1895 (by decide +kernel) (by decide +kernel))
def sLn (k : Nat) : Int32 := Int32.ofNat (sL.getD k 0)
def sCh (k : Nat) (i : Int32) : Int32 := (((sB.getD k []).getD i.toNatClampNeg 0 &&& 255).toUInt32 % 65536).toInt32
section text
variable {p : Program} {l : Launch} {e : Env} {R : Room} {s : State} {m : MethodId} {args : Array Value} {below : List Frame} {meth : Method} {c : Code} {H : Heap} {locs : List Loc} {cells slots : Nat} {Q : State → Prop} {cc : ByteArray} {nL : Nat} {own : String} {D : va_G} {dA : Nat → ClassId} {zz : (Nat → Nat) × (Nat → Nat)} {bs : Nat} {ly : List Lay} {mm m1 : Mm} {pc : Nat} {ls : Array Slot} {rest st0 : List Value} {y : MethodName} {yc : ByteArray} {yl idx n fr lo i ci : Nat} {yr : Option FieldType} {rv : Option Value} {As : List Value}
theorem wd_cr {b : Nat} (X : Cx p m meth c cc nL s args own D dA zz bs) (hP : Wd D dA bs ly mm H) (hS : va_S (Aq bs) s.heap H locs) (hrc : ∃ cell : Cell, H[b]? = some cell ∧ cell.vm.isStatics = false ∧ s.vm.findClass y.cls = some cell.cls) (hV : MLv own idx y yc yl yr n) (hM : Mw l D dA zz bs ly y yc yl yr fr lo (.ref b :: As) mm rv m1) (hn : As.length = n) (hR : fr + 1 ≤ R.frames ∧ 8 + (yl + 11) + lo ≤ R.locals) (hls : ls.size = nL) (hst : st0 = As.reverse ++ .ref b :: rest) (hW : (rest.map fun v => v.category).sum ≤ 8) (hcs : cells ≤ R.cells ∧ slots ≤ R.slots) (hdg : decode cc pc = .ok (.invokevirtual idx, 3))
    (kk : ∀ (H1 : Heap) (locs1 : List Loc), Wd D dA bs ly m1 H1 → va_S (Aq bs) s.heap H1 locs1 → W p l e R s m args below meth c H1 locs1 cells slots Q (F0 m (pc + 3) ls (rv.toList ++ rest))) : W p l e R s m args below meth c H locs cells slots Q (F0 m pc ls st0) := by
  obtain ⟨hx, hb, hml, hown, hts, hK, hZ, hlk⟩ := id X
  refine wd_back (va_runV (C := y.cls) (Ts := gt) ⟨hx, hb, hml, hown, hts⟩ hM ⟨hV.1.ok hts (hts _ hV.2.1) hR, hts _ hV.2.2.1, hts _ hV.2.2.2⟩ ⟨PcW_blind, hrc, PcW_at X hP hS⟩ rfl hn hls hst (lv_room hW) hdg hcs) hS kk
theorem wd_nret {ty : FieldType} (X : Cx p m meth c cc nL s args own D dA zz bs) (hP : Wd D dA bs ly mm H) (hS : va_S (Aq bs) s.heap H locs) (hr : meth.sig.returnType = some ty) {v : Int32} (hn : narrow ty (.int v) = .int v) (hdg : decode cc pc = .ok (.ireturn, 1)) (ho : some (Value.int v) = rv ∧ mm = m1) : W p l e R s m args below meth c H locs cells slots (MQ below (QcW D dA bs ly rv m1) args s cells slots (Aq bs)) (F0 m pc ls [.int v]) := by
  obtain ⟨h1, h2⟩ := ho
  subst h1; subst h2
  exact W.zret X.1 X.2.1 hr hn (fun t ht hW => ⟨⟨rfl, by rw [ht]; exact hP⟩, hS.F ht⟩) hS.2.2 hdg X.2.2.2.2.2.2.2.1
end text
section texts
variable (l : Launch) (D : va_G) (dA : Nat → ClassId) (zz : (Nat → Nat) × (Nat → Nat)) (bs : Nat) (mm : Mm)
theorem c_coder {k : Nat} (hk : k < 24) : Mw l D dA zz bs LY yJ0_coder_7d493 cJ0_coder_7d493 1 (some .byte) 0 0 [.ref (zz.1 k)] mm (some (.int 0)) mm := by
  refine Mw.of (own := RJ0) (by decide) rfl (Nat.le_of_ble_eq_true rfl) ?_
  intro p e s m args below meth c X hr0 hP hS ls hl
  have hx := X.1
  have hb := X.2.1
  have hl : lv_has ls 1 [(0, .ref (zz.1 k))] := hl
  have hE := X.2.2.2.2.2.2.1.1.1 k hk
  refine va_gets hx hb X.2.2.2.2.2.2.1.2.2.1 hS X.2.2.2.1 (X.2.2.2.2.1 _ kf_J0_38) (fun _ h => h) dJ0_coder_7d493_0 ?_
  refine lv_if_eq (tgt := 13) hx hb dJ0_coder_7d493_3 (by decide) (fun c_1 => absurd c_1 (by decide)) (fun _ => ?_)
  refine lv_aload_n hx hb dJ0_coder_7d493_6 rfl (lv_at hl 0 rfl) ?_
  refine vk_getf hx hb hE.2.1 hS X.2.2.2.1 (X.2.2.2.2.1 _ kf_J0_15) (fun _ h => h) dJ0_coder_7d493_7 ?_
  refine lv_goto (tgt := 14) hx hb dJ0_coder_7d493_10 (by decide) ?_
  exact wd_nret X hP hS hr0 (by decide) dJ0_coder_7d493_14 ⟨rfl, rfl⟩
theorem c_isLatin1 {k : Nat} (hk : k < 24) : Mw l D dA zz bs LY yJ0_isLatin1_aae02 cJ0_isLatin1_aae02 1 (some .boolean) 0 0 [.ref (zz.1 k)] mm (some (.int 1)) mm := by
  refine Mw.of (own := RJ0) (by decide) rfl (Nat.le_of_ble_eq_true rfl) ?_
  intro p e s m args below meth c X hr0 hP hS ls hl
  have hx := X.1
  have hb := X.2.1
  have hl : lv_has ls 1 [(0, .ref (zz.1 k))] := hl
  have hE := X.2.2.2.2.2.2.1.1.1 k hk
  refine va_gets hx hb X.2.2.2.2.2.2.1.2.2.1 hS X.2.2.2.1 (X.2.2.2.2.1 _ kf_J0_38) (fun _ h => h) dJ0_isLatin1_aae02_0 ?_
  refine lv_if_eq (tgt := 17) hx hb dJ0_isLatin1_aae02_3 (by decide) (fun c_1 => absurd c_1 (by decide)) (fun _ => ?_)
  refine lv_aload_n hx hb dJ0_isLatin1_aae02_6 rfl (lv_at hl 0 rfl) ?_
  refine vk_getf hx hb hE.2.1 hS X.2.2.2.1 (X.2.2.2.2.1 _ kf_J0_15) (fun _ h => h) dJ0_isLatin1_aae02_7 ?_
  refine lv_if_ne (tgt := 17) hx hb dJ0_isLatin1_aae02_10 (by decide) (fun c_1 => absurd rfl c_1) (fun _ => ?_)
  refine lv_iconst (v := 1) hx hb dJ0_isLatin1_aae02_13 (by decide) ?_
  refine lv_goto (tgt := 18) hx hb dJ0_isLatin1_aae02_14 (by decide) ?_
  exact wd_zret X hP hS hr0 (by decide) dJ0_isLatin1_aae02_18 ⟨rfl, rfl⟩
theorem c_length {k : Nat} (hk : k < 24) : Mw l D dA zz bs LY yJ0_length_8abf5 cJ0_length_8abf5 1 (some .int) 1 20 [.ref (zz.1 k)] mm (some (.int (sLn k))) mm := by
  refine Mw.of (own := RJ0) (by decide) rfl (Nat.le_of_ble_eq_true rfl) ?_
  intro p e s m args below meth c X hr0 hP hS ls hl
  have hx := X.1
  have hb := X.2.1
  have hl : lv_has ls 1 [(0, .ref (zz.1 k))] := hl
  have hE := X.2.2.2.2.2.2.1.1.1 k hk
  refine lv_aload_n hx hb dJ0_length_8abf5_0 rfl (lv_at hl 0 rfl) ?_
  refine vk_getf hx hb hE.2.2.1 hS X.2.2.2.1 (X.2.2.2.2.1 _ kf_J0_9) (fun _ h => h) dJ0_length_8abf5_1 ?_
  refine va_tlen hx hb hE.2.2.2 hS rfl dJ0_length_8abf5_4 ?_
  refine lv_aload_n hx hb dJ0_length_8abf5_5 rfl (lv_at hl 0 rfl) ?_
  refine wd_cr X hP hS (vk_recv X.2.2.2.2.2.2.1.1 hk hS) ml_J0_335 (c_coder l D dA zz bs mm hk) rfl ⟨Nat.le_of_ble_eq_true rfl, Nat.le_of_ble_eq_true rfl⟩ hl.1 rfl (rest := [.int (Int32.ofNat (sL.getD k 0))]) (Nat.le_of_ble_eq_true rfl) ⟨Nat.zero_le _, Nat.zero_le _⟩ dJ0_length_8abf5_6 (fun H locs hP hS => ?_)
  refine W.eq (g2 := F0 m 9 ls [.int 0, .int (Int32.ofNat (sL.getD k 0))]) rfl ?_
  refine lv_ishr hx hb dJ0_length_8abf5_9 ?_
  exact wd_iret X hP hS hr0 dJ0_length_8abf5_10 ⟨by rw [sb_shr0]; rfl, rfl⟩
theorem c_preCheck {w : Value} (hw : w = .null ∨ ∃ t, w = .ref t) {x0 x1 : Int32} (h : ¬ x0 < 0 ∧ x0 < x1) : Mw l D dA zz bs LY yJ3_checkIndex_8e157 cJ3_checkIndex_8e157 3 (some .int) 0 0 [.int x0, .int x1, w] mm (some (.int x0)) mm := by
  have key : ∀ w : Value, (lg_sl [.int x0, .int x1, w]).length ≤ 3 → lv_args 0 [.int x0, .int x1, w] = [(0, .int x0), (1, .int x1), (2, w)] → Mw l D dA zz bs LY yJ3_checkIndex_8e157 cJ3_checkIndex_8e157 3 (some .int) 0 0 [.int x0, .int x1, w] mm (some (.int x0)) mm := by
    intro w h1 h2
    refine Mw.of (own := RJ3) (by decide) rfl h1 ?_
    intro p e s m args below meth c X hr0 hP hS ls hl
    have hx := X.1
    have hb := X.2.1
    rw [h2] at hl
    refine lv_iload_n hx hb dJ3_checkIndex_8e157_0 rfl (lv_at hl 0 rfl) ?_
    refine lv_if_lt (tgt := 9) hx hb dJ3_checkIndex_8e157_1 (by decide) (fun c_1 => absurd c_1 h.1) (fun _ => ?_)
    refine lv_iload_n hx hb dJ3_checkIndex_8e157_4 rfl (lv_at hl 0 rfl) ?_
    refine lv_iload_n hx hb dJ3_checkIndex_8e157_5 rfl (lv_at hl 1 rfl) ?_
    refine lv_icmp_lt (tgt := 16) hx hb dJ3_checkIndex_8e157_6 (by decide) (fun _ => ?_) (fun c_1 => absurd h.2 c_1)
    refine lv_iload_n hx hb dJ3_checkIndex_8e157_16 rfl (lv_at hl 0 rfl) ?_
    exact wd_iret X hP hS hr0 dJ3_checkIndex_8e157_17 ⟨rfl, rfl⟩
  rcases hw with h | ⟨t, h⟩ <;> subst h
  · exact key _ (Nat.le_of_ble_eq_true rfl) rfl
  · exact key _ (Nat.le_of_ble_eq_true rfl) rfl
theorem c_checkIndex {x0 x1 : Int32} (h : ¬ x0 < 0 ∧ x0 < x1) : Mw l D dA zz bs LY yJ0_checkIndex_df160 cJ0_checkIndex_df160 2 none 1 22 [.int x0, .int x1] mm none mm := by
  refine Mw.of (own := RJ0) (by decide) rfl (Nat.le_of_ble_eq_true rfl) ?_
  intro p e s m args below meth c X hr0 hP hS ls hl
  have hx := X.1
  have hb := X.2.1
  have hl : lv_has ls 2 [(0, .int x0), (1, .int x1)] := hl
  refine lv_iload_n hx hb dJ0_checkIndex_df160_0 rfl (lv_at hl 0 rfl) ?_
  refine lv_iload_n hx hb dJ0_checkIndex_df160_1 rfl (lv_at hl 1 rfl) ?_
  have go : ∀ w : Value, (w = .null ∨ ∃ t, w = .ref t) → va_Z "jdk/internal/util/Preconditions" "SIOOBE_FORMATTER" "Ljava/util/function/BiFunction;" w (Aq bs) s s.heap → W p l e (rmW 1 22) s m args below meth c s.heap [] 0 0 (MQ below (QcW D dA bs LY none mm) args s 0 0 (Aq bs)) (F0 m 2 ls [.int x1, .int x0]) := by
    intro w hw hz
    refine va_gets hx hb hz hS X.2.2.2.1 (X.2.2.2.2.1 _ kf_J0_1053) (fun _ h => h) dJ0_checkIndex_df160_2 ?_
    refine wd_cs X hP hS ml_J0_1059 (c_preCheck l D dA zz bs mm hw h) rfl ⟨Nat.le_of_ble_eq_true rfl, Nat.le_of_ble_eq_true rfl⟩ hl.1 rfl (rest := []) (Nat.le_of_ble_eq_true rfl) ⟨Nat.zero_le _, Nat.zero_le _⟩ dJ0_checkIndex_df160_5 (fun H locs hP hS => ?_)
    refine W.eq (g2 := F0 m 8 ls [.int x0]) rfl ?_
    refine lv_pop hx hb dJ0_checkIndex_df160_8 rfl ?_
    exact wd_vret X hP hS hr0 dJ0_checkIndex_df160_9 ⟨rfl, rfl⟩
  rcases X.2.2.2.2.2.2.1.2.2.2 with hz | ⟨t, hz⟩
  · exact go _ (Or.inl rfl) hz
  · exact go _ (Or.inr ⟨t, rfl⟩) hz
theorem sL_lt : ∀ k, k < 24 → sL.getD k 0 < 1000 := by decide
theorem c_latinAt {k : Nat} (hk : k < 24) {i : Int32} (h : ¬ (i < 0 ∨ sL.getD k 0 ≤ i.toNatClampNeg)) : Mw l D dA zz bs LY yJ1_charAt_3b067 cJ1_charAt_3b067 2 (some .char) 2 43 [.ref (zz.2 k), .int i] mm (some (.int (sCh k i))) mm := by
  have hlen := sL_lt k hk
  have hi : ¬ i < 0 ∧ i < Int32.ofNat (sL.getD k 0) := by
    refine ⟨fun z => h (Or.inl z), ?_⟩
    obtain ⟨j, hj, e⟩ := vp_in_of h (Nat.lt_trans hlen (by decide))
    rw [e]
    exact nI_lt hj (Nat.lt_trans hlen (by decide))
  refine Mw.of (own := RJ1) (by decide) rfl (Nat.le_of_ble_eq_true rfl) ?_
  intro p e s m args below meth c X hr0 hP hS ls hl
  have hx := X.1
  have hb := X.2.1
  have hl : lv_has ls 2 [(0, .ref (zz.2 k)), (1, .int i)] := hl
  have hE := X.2.2.2.2.2.2.1.1.1 k hk
  refine lv_iload_n hx hb dJ1_charAt_3b067_0 rfl (lv_at hl 1 rfl) ?_
  refine lv_aload_n hx hb dJ1_charAt_3b067_1 rfl (lv_at hl 0 rfl) ?_
  refine va_tlen hx hb hE.2.2.2 hS rfl dJ1_charAt_3b067_2 ?_
  refine wd_cs X hP hS ml_J1_9 (c_checkIndex l D dA zz bs mm hi) rfl ⟨Nat.le_of_ble_eq_true rfl, Nat.le_of_ble_eq_true rfl⟩ hl.1 rfl (rest := []) (Nat.le_of_ble_eq_true rfl) ⟨Nat.zero_le _, Nat.zero_le _⟩ dJ1_charAt_3b067_3 (fun H locs hP hS => ?_)
  refine W.eq (g2 := F0 m 6 ls []) rfl ?_
  refine lv_aload_n hx hb dJ1_charAt_3b067_6 rfl (lv_at hl 0 rfl) ?_
  refine lv_iload_n hx hb dJ1_charAt_3b067_7 rfl (lv_at hl 1 rfl) ?_
  refine va_tb hx hb hE.2.2.2 hS h rfl dJ1_charAt_3b067_8 ?_
  refine lv_sipush (v := 255) hx hb dJ1_charAt_3b067_9 (by decide) ?_
  refine lv_iand hx hb dJ1_charAt_3b067_12 ?_
  refine lv_i2c hx hb dJ1_charAt_3b067_13 rfl ?_
  exact wd_nret X hP hS hr0 (pk_nc _) dJ1_charAt_3b067_14 ⟨rfl, rfl⟩
theorem c_charAt {k : Nat} (hk : k < 24) {i : Int32} (h : ¬ (i < 0 ∨ sL.getD k 0 ≤ i.toNatClampNeg)) : Mw l D dA zz bs LY yJ0_charAt_5068e cJ0_charAt_5068e 2 (some .char) 3 64 [.ref (zz.1 k), .int i] mm (some (.int (sCh k i))) mm := by
  refine Mw.of (own := RJ0) (by decide) rfl (Nat.le_of_ble_eq_true rfl) ?_
  intro p e s m args below meth c X hr0 hP hS ls hl
  have hx := X.1
  have hb := X.2.1
  have hl : lv_has ls 2 [(0, .ref (zz.1 k)), (1, .int i)] := hl
  have hE := X.2.2.2.2.2.2.1.1.1 k hk
  refine lv_aload_n hx hb dJ0_charAt_5068e_0 rfl (lv_at hl 0 rfl) ?_
  refine wd_cr X hP hS (vk_recv X.2.2.2.2.2.2.1.1 hk hS) ml_J0_492 (c_isLatin1 l D dA zz bs mm hk) rfl ⟨Nat.le_of_ble_eq_true rfl, Nat.le_of_ble_eq_true rfl⟩ hl.1 rfl (rest := []) (Nat.le_of_ble_eq_true rfl) ⟨Nat.zero_le _, Nat.zero_le _⟩ dJ0_charAt_5068e_1 (fun H locs hP hS => ?_)
  refine W.eq (g2 := F0 m 4 ls [.int 1]) rfl ?_
  refine lv_if_eq (tgt := 16) hx hb dJ0_charAt_5068e_4 (by decide) (fun c_1 => absurd c_1 (by decide)) (fun _ => ?_)
  refine lv_aload_n hx hb dJ0_charAt_5068e_7 rfl (lv_at hl 0 rfl) ?_
  refine vk_getf hx hb hE.2.2.1 hS X.2.2.2.1 (X.2.2.2.2.1 _ kf_J0_9) (fun _ h => h) dJ0_charAt_5068e_8 ?_
  refine lv_iload_n hx hb dJ0_charAt_5068e_11 rfl (lv_at hl 1 rfl) ?_
  refine wd_cs X hP hS ml_J0_495 (c_latinAt l D dA zz bs mm hk h) rfl ⟨Nat.le_of_ble_eq_true rfl, Nat.le_of_ble_eq_true rfl⟩ hl.1 rfl (rest := []) (Nat.le_of_ble_eq_true rfl) ⟨Nat.zero_le _, Nat.zero_le _⟩ dJ0_charAt_5068e_12 (fun H locs hP hS => ?_)
  refine W.eq (g2 := F0 m 15 ls [.int (sCh k i)]) rfl ?_
  exact wd_nret X hP hS hr0 (pk_nc _) dJ0_charAt_5068e_15 ⟨rfl, rfl⟩
end texts
theorem wd_ldcw {p : Program} {l : Launch} {e : Env} {R : Room} {s : State} {m : MethodId} {args : Array Value} {below : List Frame} {meth : Method} {c : Code} {H : Heap} {locs : List Loc} {cells slots : Nat} {Q : State → Prop} {cc : ByteArray} {pc : Nat} {ls : Array Slot} {rest : List Value} (hexec : p.tables.exec = Jvm.exec) (hb : c.code = cc) {own tx : String} {index q : Nat} (hown : s.vm.findClass own = some m.cls) (hZ : vk_R own index tx q s) (hdg : decode cc pc = .ok (.ldc_w index, 3))
    (k : W p l e R s m args below meth c H locs cells slots Q (F0 m (pc + 3) ls (.ref q :: rest))) : W p l e R s m args below meth c H locs cells slots Q (F0 m pc ls rest) := by
  intro T hT X
  obtain ⟨t, a1, b1⟩ := k T hT X
  exact ⟨t, X.ldcStringW hexec hown (text := tx) (a := q) hZ.1 hZ.2 (g := F0 m pc ls rest) rfl (by rw [hb]; exact hdg) t a1, b1⟩
