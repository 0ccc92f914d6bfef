set_option maxRecDepth 100000 in
theorem k_start {b : Nat} {s : State} (hts : ∀ w ∈ lw_tbl, w.before #[Value.ref b] s = true) : ∃ (D : va_G) (dA : Nat → ClassId), va_K D vwCl (tysW dA) s ∧ ∀ C ∈ aoL, va_AO C s := by
  obtain ⟨c0, i0, hk0⟩ := u_known (C := RX0) (T := TX0) (N := 6) (n := 6) hts (fun w h => gt_tbl (inX0 w h)) (hts _ (gt_tbl (tb_at 425 (by decide +kernel) (by decide +kernel))))
  obtain ⟨c1, i1, hk1⟩ := u_known (C := RX1) (T := TX1) (N := 7) (n := 7) hts (fun w h => gt_tbl (inX1 w h)) (hts _ (gt_tbl (tb_at 394 (by decide +kernel) (by decide +kernel))))
  obtain ⟨c2, i2, hk2⟩ := u_known (C := RX2) (T := TX2) (N := 2) (n := 2) hts (fun w h => gt_tbl (inX2 w h)) (hts _ (gt_tbl (tb_at 332 (by decide +kernel) (by decide +kernel))))
  obtain ⟨c3, i3, hk3⟩ := u_known (C := RX3) (T := TX3) (N := 10) (n := 10) hts (fun w h => gt_tbl (inX3 w h)) (hts _ (gt_tbl (tb_at 351 (by decide +kernel) (by decide +kernel))))
  obtain ⟨c4, i4, hk4⟩ := u_known (C := RX4) (T := TX4) (N := 12) (n := 12) hts (fun w h => gt_tbl (inX4 w h)) (hts _ (gt_tbl (tb_at 137 (by decide +kernel) (by decide +kernel))))
  obtain ⟨c5, i5, hk5⟩ := u_known (C := RX5) (T := TX5) (N := 9) (n := 9) hts (fun w h => gt_tbl (inX5 w h)) (hts _ (gt_tbl (tb_at 66 (by decide +kernel) (by decide +kernel))))
  obtain ⟨c6, i6, hk6⟩ := u_known (C := RX6) (T := TX6) (N := 3) (n := 3) hts (fun w h => gt_tbl (inX6 w h)) (hts _ (gt_tbl (tb_at 60 (by decide +kernel) (by decide +kernel))))
  obtain ⟨c7, i7, hk7⟩ := u_known (C := RX7) (T := TX7) (N := 7) (n := 7) hts (fun w h => gt_tbl (inX7 w h)) (hts _ (gt_tbl (tb_at 232 (by decide +kernel) (by decide +kernel))))
  obtain ⟨c8, i8, hk8⟩ := u_known (C := RX8) (T := TX8) (N := 3) (n := 3) hts (fun w h => gt_tbl (inX8 w h)) (hts _ (gt_tbl (tb_at 226 (by decide +kernel) (by decide +kernel))))
  obtain ⟨c9, i9, hk9⟩ := u_known (C := RX9) (T := TX9) (N := 10) (n := 10) hts (fun w h => gt_tbl (inX9 w h)) (hts _ (gt_tbl (tb_at 277 (by decide +kernel) (by decide +kernel))))
  obtain ⟨c10, i10, hk10⟩ := u_known (C := RX10) (T := TX10) (N := 5) (n := 5) hts (fun w h => gt_tbl (inX10 w h)) (hts _ (gt_tbl (tb_at 31 (by decide +kernel) (by decide +kernel))))
  obtain ⟨c11, i11, hk11⟩ := u_known (C := RX11) (T := TX11) (N := 14) (n := 14) hts (fun w h => gt_tbl (inX11 w h)) (hts _ (gt_tbl (tb_at 23 (by decide +kernel) (by decide +kernel))))
  obtain ⟨c12, i12, hk12⟩ := u_known (C := RX12) (T := TX12) (N := 73) (n := 73) hts (fun w h => gt_tbl (inX12 w h)) (hts _ (gt_tbl (tb_at 1138 (by decide +kernel) (by decide +kernel))))
  obtain ⟨a0, ka0, co0, ga0, gb0, gc0⟩ := Cond.arrayClass_spec (show (Cond.arrayClass .int).holds #[Value.ref b] s none s [] = true from hts _ (gt_tbl aw_int))
  obtain ⟨a1, ka1, co1, ga1, gb1, gc1⟩ := Cond.arrayClass_spec (show (Cond.arrayClass .byte).holds #[Value.ref b] s none s [] = true from hts _ (gt_tbl aw_byte))
  obtain ⟨a2, ka2, co2, ga2, gb2, gc2⟩ := Cond.arrayClass_spec (show (Cond.arrayClass .boolean).holds #[Value.ref b] s none s [] = true from hts _ (gt_tbl aw_boolean))
  obtain ⟨a3, ka3, co3, ga3, gb3, gc3⟩ := Cond.arrayClass_spec (show (Cond.arrayClass .long).holds #[Value.ref b] s none s [] = true from hts _ (gt_tbl aw_long))
  obtain ⟨co4, a4, ka4, gd4, -, gb4, gc4, ga4⟩ := Cond.arrayOver_spec (show (Cond.arrayOver (.object "PartyRaft$State")).holds #[Value.ref b] s none s [] = true from hts _ zo_X9)
  obtain ⟨co5, a5, ka5, gd5, -, gb5, gc5, ga5⟩ := Cond.arrayOver_spec (show (Cond.arrayOver (.object "PartyRaft$Rule")).holds #[Value.ref b] s none s [] = true from hts _ zo_X7)
  obtain ⟨co6, a6, ka6, gd6, -, gb6, gc6, ga6⟩ := Cond.arrayOver_spec (show (Cond.arrayOver (.object "PartyRaft$Raft")).holds #[Value.ref b] s none s [] = true from hts _ zo_X4)
  refine ⟨(fun k => if k = 0 then c0 else if k = 1 then c1 else if k = 2 then c2 else if k = 3 then c3 else if k = 4 then c4 else if k = 5 then c5 else if k = 6 then c6 else if k = 7 then c7 else if k = 8 then c8 else if k = 9 then c9 else if k = 10 then c10 else if k = 11 then c11 else c12, fun k => if k = 0 then i0 else if k = 1 then i1 else if k = 2 then i2 else if k = 3 then i3 else if k = 4 then i4 else if k = 5 then i5 else if k = 6 then i6 else if k = 7 then i7 else if k = 8 then i8 else if k = 9 then i9 else if k = 10 then i10 else if k = 11 then i11 else i12), fun k => if k = 0 then a0 else if k = 1 then a1 else if k = 2 then a2 else if k = 3 then a3 else if k = 4 then a4 else if k = 5 then a5 else a6, ⟨fun k q hq => ?_, fun k q hq => ?_⟩, fun C hC => ?_⟩
  · match k, hq with
    | 0, hq => cases hq; exact hk0
    | 1, hq => cases hq; exact hk1
    | 2, hq => cases hq; exact hk2
    | 3, hq => cases hq; exact hk3
    | 4, hq => cases hq; exact hk4
    | 5, hq => cases hq; exact hk5
    | 6, hq => cases hq; exact hk6
    | 7, hq => cases hq; exact hk7
    | 8, hq => cases hq; exact hk8
    | 9, hq => cases hq; exact hk9
    | 10, hq => cases hq; exact hk10
    | 11, hq => cases hq; exact hk11
    | 12, hq => cases hq; exact hk12
    | k + 13, hq => simp [vwCl] at hq
  · match k, hq with
    | 0, hq => cases hq; exact ⟨fun n z => ⟨(fun k h => by cases h), ka0, gb0, co0, gc0⟩, ga0⟩
    | 1, hq => cases hq; exact ⟨fun n z => ⟨(fun k h => by cases h), ka1, gb1, co1, gc1⟩, ga1⟩
    | 2, hq => cases hq; exact ⟨fun n z => ⟨(fun k h => by cases h), ka2, gb2, co2, gc2⟩, ga2⟩
    | 3, hq => cases hq; exact ⟨fun n z => ⟨(fun k h => by cases h), ka3, gb3, co3, gc3⟩, ga3⟩
    | 4, hq => cases hq; exact ⟨fun n z => ⟨(fun k h => by cases h), ka4, gb4, co4, gc4⟩, ⟨ka4, co4, gb4, gc4, gd4, ga4⟩⟩
    | 5, hq => cases hq; exact ⟨fun n z => ⟨(fun k h => by cases h), ka5, gb5, co5, gc5⟩, ⟨ka5, co5, gb5, gc5, gd5, ga5⟩⟩
    | 6, hq => cases hq; exact ⟨fun n z => ⟨(fun k h => by cases h), ka6, gb6, co6, gc6⟩, ⟨ka6, co6, gb6, gc6, gd6, ga6⟩⟩
    | k + 7, hq => simp [tysW] at hq
  · simp only [aoL, List.mem_cons, List.not_mem_nil, or_false] at hC
    rcases hC with rfl | rfl | rfl
    · exact va_AO.of (hts _ zo_X9)
    · exact va_AO.of (hts _ zo_X7)
    · exact va_AO.of (hts _ zo_X4)
theorem lPR_len : (lPR 0).length = 1088 := by
  unfold lPR
  rw [List.length_append, List.length_append, List.length_append, pPx_len, lSS_len, lUU_len]
  rfl
set_option maxRecDepth 100000 in
theorem LY_eq : (([] : List Lay) ++ lPR 0) ++ (([.inl (12, [none, some (some (1088 + 1)), some (some (1088 + 2)), some (some (1088 + 3)), some (some (1088 + 4)), some (some (1088 + 5)), some (some (1088 + 6)), some (some (1088 + 7)), some (some (1088 + 8)), some (some (1088 + 9)), some (some (1088 + 10)), some (some (1088 + 11)), some (some (1088 + 12)), some (some (1088 + 13)), some (some (1088 + 14)), some (some (1088 + 15)), some (some (1088 + 16)), some (some (1088 + 17)), some (some (1088 + 18)), some (some (1088 + 19)), some (some (1088 + 20)), some (some (1088 + 21)), some (some (1088 + 22)), some (some (1088 + 23)), some (some (1088 + 24)), some (some (1088 + 25)), some (some (1088 + 26)), some (some (1088 + 27)), some (some (1088 + 28)), some (some (1088 + 29)), some (some (1088 + 30)), none, none, none, none, none, none, none, none, none, none, some (some (1088 + 31)), some (some (1088 + 32)), some (some (1088 + 33)), some (some (1088 + 34)), some (some (1088 + 35)), some (some (1088 + 36)), some (some (1088 + 37)), some (some (1088 + 38)), some (some (1088 + 39)), some (some (1088 + 40)), none, none, some (some (1088 + 41)), some (some (1088 + 42)), none, none, none, some (some (1088 + 43)), some (some (1088 + 44)), some (some (1088 + 45)), none, none, some (some (1088 + 46)), some (some (1088 + 47)), some (some (1088 + 48)), none, some (some (1088 + 49)), some (some (1088 + 50)), some (some (1088 + 51)), some (some (1088 + 52)), none, none])] : List Lay) ++ pM52 1088) = LY := rfl
def m0 : Mm := wI mz 1088 40 12
set_option maxHeartbeats 4000000 in
set_option maxRecDepth 100000 in
theorem whole_of (I : Mm → Prop) (hsm : sm_all I) (h0 : I m0) {p : Program} {e : Env} {s : State} {m : MethodId} {below : List Frame} {meth : Method} {c : Code} (l : Launch) {b L : Nat} {xs : Nat → Int32} (hL : L ≤ 3072) (C0 : lw_At p s m meth c b L xs) : W p l e room_1 s m #[Value.ref b] below meth c s.heap [] 0 0 (lw_Z below #[Value.ref b] s) (entryFrame m ([Value.ref b] : List Value).toArray 4) := by
  obtain ⟨hx, hb, hr, hml, hown, hts, hX, hbl, hlocks, hgv⟩ := id C0
  obtain ⟨zz, hZ⟩ := z_start hts hgv
  obtain ⟨D, dA, hK, hao⟩ := k_start hts
  obtain ⟨bs, hbs⟩ : ∃ z, z = s.heap.size := ⟨_, rfl⟩
  rw [← hbs] at hZ
  have X : Cx p m meth c cL_law 4 s #[Value.ref b] RL D dA zz bs := ⟨hx, hb, hml, hown, fun w h => hts w (gt_tbl h), hK, hZ, hlocks, fun w h => va_Nw.of (by have h1 := (List.mem_filter.mp h).2; cases w <;> first | rfl | cases h1) (hts w (List.mem_filter.mp h).1)⟩
  have XK : CxK p m meth c cL_law 4 s #[Value.ref b] RL D dA zz bs := ⟨X, hao, by omega⟩
  have hl := lv_entry ([.ref b]) (n := 4) (Nat.le_of_ble_eq_true rfl)
  rw [lg_entry_eq]
  generalize (lg_sl ([.ref b]) ++ List.replicate (4 - (lg_sl ([.ref b])).length) Slot.unset).toArray = ls at hl ⊢
  have hl : lv_has ls 4 [(0, .ref b)] := hl
  have hP : Wk D dA bs [] mz s.heap := ⟨fun k q h => by simp [wsW] at h, by rw [hbs]; rfl⟩
  have hS : va_S (Aq bs) s.heap s.heap [] := va_S.rf
  refine wk_new XK hP hS nn_L_7 (Zr_mz _) (Nat.le_of_ble_eq_true rfl) (Nat.le_of_ble_eq_true rfl) dL_law_0 (fun H hP hS => ?_)
  refine W.eq (g2 := F0 m 3 ls [.ref (bs + 0)]) rfl ?_
  refine lv_dup hx hb dL_law_3 rfl ?_
  refine wk_ci XK hP hS mi_L_9 (k_X11_init l D dA zz bs [] 0 rfl) rfl ⟨Nat.le_of_ble_eq_true rfl, Nat.le_of_ble_eq_true rfl⟩ hl.1 rfl (rest := [.ref (bs + 0)]) (Nat.le_of_ble_eq_true rfl) ⟨Nat.le_of_ble_eq_true rfl, Nat.le_of_ble_eq_true rfl⟩ dL_law_4 (fun H locs hP hS => ?_)
  refine W.eq (g2 := F0 m 7 ls [.ref (bs + 0)]) rfl ?_
  refine lv_astore_n (lv' := [(1, .ref (bs + 0)), (0, .ref b)]) hx hb dL_law_7 rfl hl (by decide) rfl (fun ls hl => ?_)
  have hlen : (([] : List Lay) ++ lPR 0).length = 1088 := lPR_len
  refine wk_new XK hP hS nn_L_10 (Zr_mz _) (Nat.le_of_ble_eq_true rfl) (Nat.le_of_ble_eq_true rfl) dL_law_8 (fun H hP hS => ?_)
  rw [hlen]
  refine lv_dup hx hb dL_law_11 rfl ?_
  refine wk_ci XK hP hS mi_L_12 (k_X12_init l D dA zz bs _ 1088 hlen) rfl ⟨Nat.le_of_ble_eq_true rfl, Nat.le_of_ble_eq_true rfl⟩ hl.1 rfl (rest := [.ref (bs + 1088)]) (Nat.le_of_ble_eq_true rfl) ⟨Nat.le_of_ble_eq_true rfl, Nat.le_of_ble_eq_true rfl⟩ dL_law_12 (fun H locs hP hS => ?_)
  rw [LY_eq] at hP
  refine W.eq (g2 := F0 m 15 ls [.ref (bs + 1088)]) rfl ?_
  refine lv_astore_n (lv' := [(2, .ref (bs + 1088)), (1, .ref (bs + 0)), (0, .ref b)]) hx hb dL_law_15 rfl hl (by decide) rfl (fun ls hl => ?_)
  refine lv_iconst (v := 0) hx hb dL_law_16 (by decide) ?_
  refine lv_istore_n (lv' := [(3, .int 0), (2, .ref (bs + 1088)), (1, .ref (bs + 0)), (0, .ref b)]) hx hb dL_law_17 rfl hl (by decide) rfl (fun ls hl => ?_)
  refine W.widen (k := 1141) (n := 31450) (Nat.le_of_ble_eq_true rfl) (Nat.le_of_ble_eq_true rfl) ?_
  exact law_loop X hr hX hbl (fun h => by have h : bs ≤ b := h; omega) (by omega) hL ⟨by decide, by decide⟩ I hsm 600 0 m0 (by omega) (by omega) h0 H locs ls hP.1 hS (lv_sub hl [3, 2, 1, 0] rfl)
