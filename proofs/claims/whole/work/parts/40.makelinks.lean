theorem aw_byte : Cond.arrayClass .byte ∈ gt := (tb_at 58 (by decide +kernel) (by decide +kernel))
theorem aw_int : Cond.arrayClass .int ∈ gt := (tb_at 135 (by decide +kernel) (by decide +kernel))
theorem aw_long : Cond.arrayClass .long ∈ gt := (tb_at 264 (by decide +kernel) (by decide +kernel))
theorem aw_boolean : Cond.arrayClass .boolean ∈ gt := (tb_at 349 (by decide +kernel) (by decide +kernel))
theorem ob_i : Cond.instanceMethod objectInit ∈ gt := (tb_at 28 (by decide +kernel) (by decide +kernel))
theorem ob_c : Cond.code objectInit ⟨#[0xb1]⟩ 1 none ∈ gt := (tb_at 29 (by decide +kernel) (by decide +kernel))
theorem ol_X11_3 : Cond.methodLink RX11 3 objectInit ∈ gt := (tb_at 27 (by decide +kernel) (by decide +kernel))
theorem mi_X11_18 : MLi RX11 18 yX6_init cX6_init 2 1 := ⟨⟨⟨(tb_at 3 (by decide +kernel) (by decide +kernel)), (tb_at 63 (by decide +kernel) (by decide +kernel))⟩, by decide, by decide, by decide +kernel⟩, (tb_at 61 (by decide +kernel) (by decide +kernel)), (tb_at 62 (by decide +kernel) (by decide +kernel)), rfl⟩
theorem mi_X11_27 : MLi RX11 27 yX8_init cX8_init 2 1 := ⟨⟨⟨(tb_at 6 (by decide +kernel) (by decide +kernel)), (tb_at 229 (by decide +kernel) (by decide +kernel))⟩, by decide, by decide, by decide +kernel⟩, (tb_at 227 (by decide +kernel) (by decide +kernel)), (tb_at 228 (by decide +kernel) (by decide +kernel)), rfl⟩
theorem mi_X11_34 : MLi RX11 34 yX9_init cX9_init 2 0 := ⟨⟨⟨(tb_at 8 (by decide +kernel) (by decide +kernel)), (tb_at 280 (by decide +kernel) (by decide +kernel))⟩, by decide, by decide, by decide +kernel⟩, (tb_at 278 (by decide +kernel) (by decide +kernel)), (tb_at 279 (by decide +kernel) (by decide +kernel)), rfl⟩
theorem mi_X11_62 : MLi RX11 62 yX3_init cX3_init 3 2 := ⟨⟨⟨(tb_at 10 (by decide +kernel) (by decide +kernel)), (tb_at 354 (by decide +kernel) (by decide +kernel))⟩, by decide, by decide, by decide +kernel⟩, (tb_at 352 (by decide +kernel) (by decide +kernel)), (tb_at 353 (by decide +kernel) (by decide +kernel)), rfl⟩
theorem mi_X11_75 : MLi RX11 75 yX1_init cX1_init 2 1 := ⟨⟨⟨(tb_at 11 (by decide +kernel) (by decide +kernel)), (tb_at 397 (by decide +kernel) (by decide +kernel))⟩, by decide, by decide, by decide +kernel⟩, (tb_at 395 (by decide +kernel) (by decide +kernel)), (tb_at 396 (by decide +kernel) (by decide +kernel)), rfl⟩
theorem mi_X11_84 : MLi RX11 84 yX0_init cX0_init 2 1 := ⟨⟨⟨(tb_at 12 (by decide +kernel) (by decide +kernel)), (tb_at 428 (by decide +kernel) (by decide +kernel))⟩, by decide, by decide, by decide +kernel⟩, (tb_at 426 (by decide +kernel) (by decide +kernel)), (tb_at 427 (by decide +kernel) (by decide +kernel)), rfl⟩
theorem mi_X11_95 : MLi RX11 95 yX4_init cX4_init 2 1 := ⟨⟨⟨(tb_at 5 (by decide +kernel) (by decide +kernel)), (tb_at 140 (by decide +kernel) (by decide +kernel))⟩, by decide, by decide, by decide +kernel⟩, (tb_at 452 (by decide +kernel) (by decide +kernel)), (tb_at 139 (by decide +kernel) (by decide +kernel)), rfl⟩
theorem ol_X0_3 : Cond.methodLink RX0 3 objectInit ∈ gt := (tb_at 429 (by decide +kernel) (by decide +kernel))
theorem ol_X1_3 : Cond.methodLink RX1 3 objectInit ∈ gt := (tb_at 398 (by decide +kernel) (by decide +kernel))
theorem ol_X2_3 : Cond.methodLink RX2 3 objectInit ∈ gt := (tb_at 336 (by decide +kernel) (by decide +kernel))
theorem ol_X3_3 : Cond.methodLink RX3 3 objectInit ∈ gt := (tb_at 355 (by decide +kernel) (by decide +kernel))
theorem ol_X4_3 : Cond.methodLink RX4 3 objectInit ∈ gt := (tb_at 141 (by decide +kernel) (by decide +kernel))
theorem ol_X5_3 : Cond.methodLink RX5 3 objectInit ∈ gt := (tb_at 70 (by decide +kernel) (by decide +kernel))
theorem ol_X6_3 : Cond.methodLink RX6 3 objectInit ∈ gt := (tb_at 64 (by decide +kernel) (by decide +kernel))
theorem mi_X6_20 : MLi RX6 20 yX4_init cX4_init 2 1 := ⟨⟨⟨(tb_at 5 (by decide +kernel) (by decide +kernel)), (tb_at 140 (by decide +kernel) (by decide +kernel))⟩, by decide, by decide, by decide +kernel⟩, (tb_at 138 (by decide +kernel) (by decide +kernel)), (tb_at 139 (by decide +kernel) (by decide +kernel)), rfl⟩
theorem ol_X7_3 : Cond.methodLink RX7 3 objectInit ∈ gt := (tb_at 236 (by decide +kernel) (by decide +kernel))
theorem ol_X8_3 : Cond.methodLink RX8 3 objectInit ∈ gt := (tb_at 230 (by decide +kernel) (by decide +kernel))
theorem ol_X9_3 : Cond.methodLink RX9 3 objectInit ∈ gt := (tb_at 281 (by decide +kernel) (by decide +kernel))
theorem mi_X9_20 : MLi RX9 20 yX4_init cX4_init 2 1 := ⟨⟨⟨(tb_at 5 (by decide +kernel) (by decide +kernel)), (tb_at 140 (by decide +kernel) (by decide +kernel))⟩, by decide, by decide, by decide +kernel⟩, (tb_at 285 (by decide +kernel) (by decide +kernel)), (tb_at 139 (by decide +kernel) (by decide +kernel)), rfl⟩
theorem ol_X10_3 : Cond.methodLink RX10 3 objectInit ∈ gt := (tb_at 35 (by decide +kernel) (by decide +kernel))
theorem mi_L_9 : MLi RL 9 yX11_init cX11_init 2 0 := ⟨⟨⟨(tb_at 1 (by decide +kernel) (by decide +kernel)), (tb_at 26 (by decide +kernel) (by decide +kernel))⟩, by decide, by decide, by decide +kernel⟩, (tb_at 24 (by decide +kernel) (by decide +kernel)), (tb_at 25 (by decide +kernel) (by decide +kernel)), rfl⟩
theorem mi_L_12 : MLi RL 12 yX12_init cX12_init 1 0 := ⟨⟨⟨(tb_at 13 (by decide +kernel) (by decide +kernel)), (tb_at 1141 (by decide +kernel) (by decide +kernel))⟩, by decide, by decide, by decide +kernel⟩, (tb_at 1139 (by decide +kernel) (by decide +kernel)), (tb_at 1140 (by decide +kernel) (by decide +kernel)), rfl⟩
theorem ol_X12_3 : Cond.methodLink RX12 3 objectInit ∈ gt := (tb_at 1142 (by decide +kernel) (by decide +kernel))
theorem mi_X11_11 : MLin RX11 11 yX10_init cX10_init 1 0 := ⟨⟨⟨(tb_at 2 (by decide +kernel) (by decide +kernel)), (tb_at 34 (by decide +kernel) (by decide +kernel))⟩, by decide, by decide, by decide +kernel⟩, ⟨_, tb_nw (w := Cond.methodLinkNest RX11 11 yX10_init "PartyRaft") 32 (by decide +kernel) (by decide +kernel)⟩, (tb_at 33 (by decide +kernel) (by decide +kernel)), rfl⟩
theorem mi_X11_55 : MLin RX11 55 yX2_init cX2_init 1 0 := ⟨⟨⟨(tb_at 9 (by decide +kernel) (by decide +kernel)), (tb_at 335 (by decide +kernel) (by decide +kernel))⟩, by decide, by decide, by decide +kernel⟩, ⟨_, tb_nw (w := Cond.methodLinkNest RX11 55 yX2_init "PartyRaft") 333 (by decide +kernel) (by decide +kernel)⟩, (tb_at 334 (by decide +kernel) (by decide +kernel)), rfl⟩
theorem mi_X11_105 : MLin RX11 105 yX7_init cX7_init 1 0 := ⟨⟨⟨(tb_at 7 (by decide +kernel) (by decide +kernel)), (tb_at 235 (by decide +kernel) (by decide +kernel))⟩, by decide, by decide, by decide +kernel⟩, ⟨_, tb_nw (w := Cond.methodLinkNest RX11 105 yX7_init "PartyRaft") 453 (by decide +kernel) (by decide +kernel)⟩, (tb_at 234 (by decide +kernel) (by decide +kernel)), rfl⟩
theorem mi_X6_11 : MLin RX6 11 yX5_init cX5_init 1 0 := ⟨⟨⟨(tb_at 4 (by decide +kernel) (by decide +kernel)), (tb_at 69 (by decide +kernel) (by decide +kernel))⟩, by decide, by decide, by decide +kernel⟩, ⟨_, tb_nw (w := Cond.methodLinkNest RX6 11 yX5_init "PartyRaft") 67 (by decide +kernel) (by decide +kernel)⟩, (tb_at 68 (by decide +kernel) (by decide +kernel)), rfl⟩
theorem mi_X8_11 : MLin RX8 11 yX7_init cX7_init 1 0 := ⟨⟨⟨(tb_at 7 (by decide +kernel) (by decide +kernel)), (tb_at 235 (by decide +kernel) (by decide +kernel))⟩, by decide, by decide, by decide +kernel⟩, ⟨_, tb_nw (w := Cond.methodLinkNest RX8 11 yX7_init "PartyRaft") 233 (by decide +kernel) (by decide +kernel)⟩, (tb_at 234 (by decide +kernel) (by decide +kernel)), rfl⟩
theorem mi_X9_11 : MLin RX9 11 yX5_init cX5_init 1 0 := ⟨⟨⟨(tb_at 4 (by decide +kernel) (by decide +kernel)), (tb_at 69 (by decide +kernel) (by decide +kernel))⟩, by decide, by decide, by decide +kernel⟩, ⟨_, tb_nw (w := Cond.methodLinkNest RX9 11 yX5_init "PartyRaft") 283 (by decide +kernel) (by decide +kernel)⟩, (tb_at 68 (by decide +kernel) (by decide +kernel)), rfl⟩
theorem cl_X11_9 : Cond.classLink RX11 9 "PartyRaft$Tape" ∈ gt := (tb_at 30 (by decide +kernel) (by decide +kernel))
theorem nn_X11_9 : NWk RX11 9 10 [some none, none, none, none, none] 5 := ⟨RX10, TX10, tyX10, rfl, inX10, tyX10_ok, cl_X11_9, (tb_at 31 (by decide +kernel) (by decide +kernel)), (tb_at 2 (by decide +kernel) (by decide +kernel)), fun bs j hj => match j, hj with
  | 0, _ => rfl
  | 1, _ => rfl
  | 2, _ => rfl
  | 3, _ => rfl
  | 4, _ => rfl
  | j + 5, h => absurd h (by omega)⟩
theorem cl_X11_16 : Cond.classLink RX11 16 "PartyRaft$RiverReader" ∈ gt := (tb_at 59 (by decide +kernel) (by decide +kernel))
theorem nn_X11_16 : NWk RX11 16 6 [some none, some none, some none] 3 := ⟨RX6, TX6, tyX6, rfl, inX6, tyX6_ok, cl_X11_16, (tb_at 60 (by decide +kernel) (by decide +kernel)), (tb_at 3 (by decide +kernel) (by decide +kernel)), fun bs j hj => match j, hj with
  | 0, _ => rfl
  | 1, _ => rfl
  | 2, _ => rfl
  | j + 3, h => absurd h (by omega)⟩
theorem cl_X11_25 : Cond.classLink RX11 25 "PartyRaft$RuleReader" ∈ gt := (tb_at 225 (by decide +kernel) (by decide +kernel))
theorem nn_X11_25 : NWk RX11 25 8 [some none, some none, none] 3 := ⟨RX8, TX8, tyX8, rfl, inX8, tyX8_ok, cl_X11_25, (tb_at 226 (by decide +kernel) (by decide +kernel)), (tb_at 6 (by decide +kernel) (by decide +kernel)), fun bs j hj => match j, hj with
  | 0, _ => rfl
  | 1, _ => rfl
  | 2, _ => rfl
  | j + 3, h => absurd h (by omega)⟩
theorem cl_X11_32 : Cond.classLink RX11 32 "PartyRaft$State" ∈ gt := (tb_at 276 (by decide +kernel) (by decide +kernel))
theorem nn_X11_32 : NWk RX11 32 9 [some none, some none, some none, none, none, none, some none, some none, some none, none] 10 := ⟨RX9, TX9, tyX9, rfl, inX9, tyX9_ok, cl_X11_32, (tb_at 277 (by decide +kernel) (by decide +kernel)), (tb_at 8 (by decide +kernel) (by decide +kernel)), fun bs j hj => match j, hj with
  | 0, _ => rfl
  | 1, _ => rfl
  | 2, _ => rfl
  | 3, _ => rfl
  | 4, _ => rfl
  | 5, _ => rfl
  | 6, _ => rfl
  | 7, _ => rfl
  | 8, _ => rfl
  | 9, _ => rfl
  | j + 10, h => absurd h (by omega)⟩
theorem cl_X11_47 : Cond.classLink RX11 47 "PartyRaft$Rule" ∈ gt := (tb_at 329 (by decide +kernel) (by decide +kernel))
theorem nn_X11_47 : NWk RX11 47 7 [some none, none, some none, some none, some none, none, some none] 7 := ⟨RX7, TX7, tyX7, rfl, inX7, tyX7_ok, cl_X11_47, (tb_at 232 (by decide +kernel) (by decide +kernel)), (tb_at 7 (by decide +kernel) (by decide +kernel)), fun bs j hj => match j, hj with
  | 0, _ => rfl
  | 1, _ => rfl
  | 2, _ => rfl
  | 3, _ => rfl
  | 4, _ => rfl
  | 5, _ => rfl
  | 6, _ => rfl
  | j + 7, h => absurd h (by omega)⟩
theorem cl_X11_53 : Cond.classLink RX11 53 "PartyRaft$Pieces" ∈ gt := (tb_at 331 (by decide +kernel) (by decide +kernel))
theorem nn_X11_53 : NWk RX11 53 2 [some none, some none] 2 := ⟨RX2, TX2, tyX2, rfl, inX2, tyX2_ok, cl_X11_53, (tb_at 332 (by decide +kernel) (by decide +kernel)), (tb_at 9 (by decide +kernel) (by decide +kernel)), fun bs j hj => match j, hj with
  | 0, _ => rfl
  | 1, _ => rfl
  | j + 2, h => absurd h (by omega)⟩
theorem cl_X11_60 : Cond.classLink RX11 60 "PartyRaft$Questions" ∈ gt := (tb_at 350 (by decide +kernel) (by decide +kernel))
theorem nn_X11_60 : NWk RX11 60 3 [some none, some none, some none, some none, none, none, none, none, none, none] 10 := ⟨RX3, TX3, tyX3, rfl, inX3, tyX3_ok, cl_X11_60, (tb_at 351 (by decide +kernel) (by decide +kernel)), (tb_at 10 (by decide +kernel) (by decide +kernel)), fun bs j hj => match j, hj with
  | 0, _ => rfl
  | 1, _ => rfl
  | 2, _ => rfl
  | 3, _ => rfl
  | 4, _ => rfl
  | 5, _ => rfl
  | 6, _ => rfl
  | 7, _ => rfl
  | 8, _ => rfl
  | 9, _ => rfl
  | j + 10, h => absurd h (by omega)⟩
theorem cl_X11_69 : Cond.classLink RX11 69 "PartyRaft$Orders" ∈ gt := (tb_at 393 (by decide +kernel) (by decide +kernel))
theorem nn_X11_69 : NWk RX11 69 1 [some none, some none, none, some none, some none, none, none] 7 := ⟨RX1, TX1, tyX1, rfl, inX1, tyX1_ok, cl_X11_69, (tb_at 394 (by decide +kernel) (by decide +kernel)), (tb_at 11 (by decide +kernel) (by decide +kernel)), fun bs j hj => match j, hj with
  | 0, _ => rfl
  | 1, _ => rfl
  | 2, _ => rfl
  | 3, _ => rfl
  | 4, _ => rfl
  | 5, _ => rfl
  | 6, _ => rfl
  | j + 7, h => absurd h (by omega)⟩
theorem cl_X11_82 : Cond.classLink RX11 82 "PartyRaft$Lockings" ∈ gt := (tb_at 424 (by decide +kernel) (by decide +kernel))
theorem nn_X11_82 : NWk RX11 82 0 [some none, none, none, some none, some none, some none] 6 := ⟨RX0, TX0, tyX0, rfl, inX0, tyX0_ok, cl_X11_82, (tb_at 425 (by decide +kernel) (by decide +kernel)), (tb_at 12 (by decide +kernel) (by decide +kernel)), fun bs j hj => match j, hj with
  | 0, _ => rfl
  | 1, _ => rfl
  | 2, _ => rfl
  | 3, _ => rfl
  | 4, _ => rfl
  | 5, _ => rfl
  | j + 6, h => absurd h (by omega)⟩
theorem cl_X11_89 : Cond.classLink RX11 89 "PartyRaft$Raft" ∈ gt := (tb_at 451 (by decide +kernel) (by decide +kernel))
theorem nn_X11_89 : NWk RX11 89 4 [some none, none, none, none, some none, some none, some none, some none, some none, some none, some none, some none] 12 := ⟨RX4, TX4, tyX4, rfl, inX4, tyX4_ok, cl_X11_89, (tb_at 137 (by decide +kernel) (by decide +kernel)), (tb_at 5 (by decide +kernel) (by decide +kernel)), fun bs j hj => match j, hj with
  | 0, _ => rfl
  | 1, _ => rfl
  | 2, _ => rfl
  | 3, _ => rfl
  | 4, _ => rfl
  | 5, _ => rfl
  | 6, _ => rfl
  | 7, _ => rfl
  | 8, _ => rfl
  | 9, _ => rfl
  | 10, _ => rfl
  | 11, _ => rfl
  | j + 12, h => absurd h (by omega)⟩
theorem cl_X6_9 : Cond.classLink RX6 9 "PartyRaft$River" ∈ gt := (tb_at 65 (by decide +kernel) (by decide +kernel))
theorem nn_X6_9 : NWk RX6 9 5 [none, none, none, none, some none, some none, some none, some none, some none] 9 := ⟨RX5, TX5, tyX5, rfl, inX5, tyX5_ok, cl_X6_9, (tb_at 66 (by decide +kernel) (by decide +kernel)), (tb_at 4 (by decide +kernel) (by decide +kernel)), fun bs j hj => match j, hj with
  | 0, _ => rfl
  | 1, _ => rfl
  | 2, _ => rfl
  | 3, _ => rfl
  | 4, _ => rfl
  | 5, _ => rfl
  | 6, _ => rfl
  | 7, _ => rfl
  | 8, _ => rfl
  | j + 9, h => absurd h (by omega)⟩
theorem cl_X6_18 : Cond.classLink RX6 18 "PartyRaft$Raft" ∈ gt := (tb_at 136 (by decide +kernel) (by decide +kernel))
theorem nn_X6_18 : NWk RX6 18 4 [some none, none, none, none, some none, some none, some none, some none, some none, some none, some none, some none] 12 := ⟨RX4, TX4, tyX4, rfl, inX4, tyX4_ok, cl_X6_18, (tb_at 137 (by decide +kernel) (by decide +kernel)), (tb_at 5 (by decide +kernel) (by decide +kernel)), fun bs j hj => match j, hj with
  | 0, _ => rfl
  | 1, _ => rfl
  | 2, _ => rfl
  | 3, _ => rfl
  | 4, _ => rfl
  | 5, _ => rfl
  | 6, _ => rfl
  | 7, _ => rfl
  | 8, _ => rfl
  | 9, _ => rfl
  | 10, _ => rfl
  | 11, _ => rfl
  | j + 12, h => absurd h (by omega)⟩
theorem cl_X8_9 : Cond.classLink RX8 9 "PartyRaft$Rule" ∈ gt := (tb_at 231 (by decide +kernel) (by decide +kernel))
theorem nn_X8_9 : NWk RX8 9 7 [some none, none, some none, some none, some none, none, some none] 7 := ⟨RX7, TX7, tyX7, rfl, inX7, tyX7_ok, cl_X8_9, (tb_at 232 (by decide +kernel) (by decide +kernel)), (tb_at 7 (by decide +kernel) (by decide +kernel)), fun bs j hj => match j, hj with
  | 0, _ => rfl
  | 1, _ => rfl
  | 2, _ => rfl
  | 3, _ => rfl
  | 4, _ => rfl
  | 5, _ => rfl
  | 6, _ => rfl
  | j + 7, h => absurd h (by omega)⟩
theorem cl_X9_9 : Cond.classLink RX9 9 "PartyRaft$River" ∈ gt := (tb_at 282 (by decide +kernel) (by decide +kernel))
theorem nn_X9_9 : NWk RX9 9 5 [none, none, none, none, some none, some none, some none, some none, some none] 9 := ⟨RX5, TX5, tyX5, rfl, inX5, tyX5_ok, cl_X9_9, (tb_at 66 (by decide +kernel) (by decide +kernel)), (tb_at 4 (by decide +kernel) (by decide +kernel)), fun bs j hj => match j, hj with
  | 0, _ => rfl
  | 1, _ => rfl
  | 2, _ => rfl
  | 3, _ => rfl
  | 4, _ => rfl
  | 5, _ => rfl
  | 6, _ => rfl
  | 7, _ => rfl
  | 8, _ => rfl
  | j + 9, h => absurd h (by omega)⟩
theorem cl_X9_18 : Cond.classLink RX9 18 "PartyRaft$Raft" ∈ gt := (tb_at 284 (by decide +kernel) (by decide +kernel))
theorem nn_X9_18 : NWk RX9 18 4 [some none, none, none, none, some none, some none, some none, some none, some none, some none, some none, some none] 12 := ⟨RX4, TX4, tyX4, rfl, inX4, tyX4_ok, cl_X9_18, (tb_at 137 (by decide +kernel) (by decide +kernel)), (tb_at 5 (by decide +kernel) (by decide +kernel)), fun bs j hj => match j, hj with
  | 0, _ => rfl
  | 1, _ => rfl
  | 2, _ => rfl
  | 3, _ => rfl
  | 4, _ => rfl
  | 5, _ => rfl
  | 6, _ => rfl
  | 7, _ => rfl
  | 8, _ => rfl
  | 9, _ => rfl
  | 10, _ => rfl
  | 11, _ => rfl
  | j + 12, h => absurd h (by omega)⟩
theorem cl_L_7 : Cond.classLink RL 7 "PartyRaft" ∈ gt := (tb_at 22 (by decide +kernel) (by decide +kernel))
theorem nn_L_7 : NWk RL 7 11 [some none, some none, some none, some none, some none, some none, some none, none, some none, some none, some none, some none, some none, some none] 14 := ⟨RX11, TX11, tyX11, rfl, inX11, tyX11_ok, cl_L_7, (tb_at 23 (by decide +kernel) (by decide +kernel)), (tb_at 1 (by decide +kernel) (by decide +kernel)), fun bs j hj => match j, hj with
  | 0, _ => rfl
  | 1, _ => rfl
  | 2, _ => rfl
  | 3, _ => rfl
  | 4, _ => rfl
  | 5, _ => rfl
  | 6, _ => rfl
  | 7, _ => rfl
  | 8, _ => rfl
  | 9, _ => rfl
  | 10, _ => rfl
  | 11, _ => rfl
  | 12, _ => rfl
  | 13, _ => rfl
  | j + 14, h => absurd h (by omega)⟩
theorem cl_L_10 : Cond.classLink RL 10 "PartyRaftModel" ∈ gt := (tb_at 1137 (by decide +kernel) (by decide +kernel))
theorem nn_L_10 : NWk RL 10 12 [none, some none, some none, some none, some none, some none, some none, some none, some none, some none, some none, some none, some none, some none, some none, some none, some none, some none, some none, some none, some none, some none, some none, some none, some none, some none, some none, some none, some none, some none, some none, none, none, none, none, none, none, none, none, none, none, some none, some none, some none, some none, some none, some none, some none, some none, some none, some none, none, none, some none, some none, none, none, none, some none, some none, some none, none, none, some none, some none, some none, none, some none, some none, some none, some none, none, none] 73 := ⟨RX12, TX12, tyX12, rfl, inX12, tyX12_ok, cl_L_10, (tb_at 1138 (by decide +kernel) (by decide +kernel)), (tb_at 13 (by decide +kernel) (by decide +kernel)), fun bs j hj => match j, hj with
  | 0, _ => rfl
  | 1, _ => rfl
  | 2, _ => rfl
  | 3, _ => rfl
  | 4, _ => rfl
  | 5, _ => rfl
  | 6, _ => rfl
  | 7, _ => rfl
  | 8, _ => rfl
  | 9, _ => rfl
  | 10, _ => rfl
  | 11, _ => rfl
  | 12, _ => rfl
  | 13, _ => rfl
  | 14, _ => rfl
  | 15, _ => rfl
  | 16, _ => rfl
  | 17, _ => rfl
  | 18, _ => rfl
  | 19, _ => rfl
  | 20, _ => rfl
  | 21, _ => rfl
  | 22, _ => rfl
  | 23, _ => rfl
  | 24, _ => rfl
  | 25, _ => rfl
  | 26, _ => rfl
  | 27, _ => rfl
  | 28, _ => rfl
  | 29, _ => rfl
  | 30, _ => rfl
  | 31, _ => rfl
  | 32, _ => rfl
  | 33, _ => rfl
  | 34, _ => rfl
  | 35, _ => rfl
  | 36, _ => rfl
  | 37, _ => rfl
  | 38, _ => rfl
  | 39, _ => rfl
  | 40, _ => rfl
  | 41, _ => rfl
  | 42, _ => rfl
  | 43, _ => rfl
  | 44, _ => rfl
  | 45, _ => rfl
  | 46, _ => rfl
  | 47, _ => rfl
  | 48, _ => rfl
  | 49, _ => rfl
  | 50, _ => rfl
  | 51, _ => rfl
  | 52, _ => rfl
  | 53, _ => rfl
  | 54, _ => rfl
  | 55, _ => rfl
  | 56, _ => rfl
  | 57, _ => rfl
  | 58, _ => rfl
  | 59, _ => rfl
  | 60, _ => rfl
  | 61, _ => rfl
  | 62, _ => rfl
  | 63, _ => rfl
  | 64, _ => rfl
  | 65, _ => rfl
  | 66, _ => rfl
  | 67, _ => rfl
  | 68, _ => rfl
  | 69, _ => rfl
  | 70, _ => rfl
  | 71, _ => rfl
  | 72, _ => rfl
  | j + 73, h => absurd h (by omega)⟩
theorem ff_X11_12 : FLf RX11 12 11 0 := ⟨RX11, TX11, 14, tyX11, rfl, inX11, by decide, (tb_at 454 (by decide +kernel) (by decide +kernel)), tyX11_ok, nmX11, rfl, rfl, fun _ => rfl, fun _ => rfl⟩
theorem ff_X11_21 : FLf RX11 21 11 1 := ⟨RX11, TX11, 14, tyX11, rfl, inX11, by decide, (tb_at 455 (by decide +kernel) (by decide +kernel)), tyX11_ok, nmX11, rfl, rfl, fun _ => rfl, fun _ => rfl⟩
theorem ff_X11_28 : FLf RX11 28 11 2 := ⟨RX11, TX11, 14, tyX11, rfl, inX11, by decide, (tb_at 456 (by decide +kernel) (by decide +kernel)), tyX11_ok, nmX11, rfl, rfl, fun _ => rfl, fun _ => rfl⟩
theorem ff_X11_35 : FLf RX11 35 11 3 := ⟨RX11, TX11, 14, tyX11, rfl, inX11, by decide, (tb_at 457 (by decide +kernel) (by decide +kernel)), tyX11_ok, nmX11, rfl, rfl, fun _ => rfl, fun _ => rfl⟩
theorem ff_X11_39 : FLf RX11 39 11 4 := ⟨RX11, TX11, 14, tyX11, rfl, inX11, by decide, (tb_at 458 (by decide +kernel) (by decide +kernel)), tyX11_ok, nmX11, rfl, rfl, fun _ => rfl, fun _ => rfl⟩
theorem ff_X11_43 : FLf RX11 43 11 5 := ⟨RX11, TX11, 14, tyX11, rfl, inX11, by decide, (tb_at 459 (by decide +kernel) (by decide +kernel)), tyX11_ok, nmX11, rfl, rfl, fun _ => rfl, fun _ => rfl⟩
theorem ff_X11_49 : FLf RX11 49 11 6 := ⟨RX11, TX11, 14, tyX11, rfl, inX11, by decide, (tb_at 460 (by decide +kernel) (by decide +kernel)), tyX11_ok, nmX11, rfl, rfl, fun _ => rfl, fun _ => rfl⟩
theorem ff_X11_56 : FLf RX11 56 11 8 := ⟨RX11, TX11, 14, tyX11, rfl, inX11, by decide, (tb_at 462 (by decide +kernel) (by decide +kernel)), tyX11_ok, nmX11, rfl, rfl, fun _ => rfl, fun _ => rfl⟩
theorem ff_X11_65 : FLf RX11 65 11 9 := ⟨RX11, TX11, 14, tyX11, rfl, inX11, by decide, (tb_at 463 (by decide +kernel) (by decide +kernel)), tyX11_ok, nmX11, rfl, rfl, fun _ => rfl, fun _ => rfl⟩
theorem ff_X11_78 : FLf RX11 78 11 10 := ⟨RX11, TX11, 14, tyX11, rfl, inX11, by decide, (tb_at 464 (by decide +kernel) (by decide +kernel)), tyX11_ok, nmX11, rfl, rfl, fun _ => rfl, fun _ => rfl⟩
theorem ff_X11_85 : FLf RX11 85 11 11 := ⟨RX11, TX11, 14, tyX11, rfl, inX11, by decide, (tb_at 465 (by decide +kernel) (by decide +kernel)), tyX11_ok, nmX11, rfl, rfl, fun _ => rfl, fun _ => rfl⟩
theorem ff_X11_98 : FLf RX11 98 11 12 := ⟨RX11, TX11, 14, tyX11, rfl, inX11, by decide, (tb_at 466 (by decide +kernel) (by decide +kernel)), tyX11_ok, nmX11, rfl, rfl, fun _ => rfl, fun _ => rfl⟩
theorem ff_X11_101 : FLf RX11 101 11 13 := ⟨RX11, TX11, 14, tyX11, rfl, inX11, by decide, (tb_at 467 (by decide +kernel) (by decide +kernel)), tyX11_ok, nmX11, rfl, rfl, fun _ => rfl, fun _ => rfl⟩
theorem ff_X0_9 : FLf RX0 9 0 3 := ⟨RX0, TX0, 6, tyX0, rfl, inX0, by decide, (tb_at 434 (by decide +kernel) (by decide +kernel)), tyX0_ok, nmX0, rfl, rfl, fun _ => rfl, fun _ => rfl⟩
theorem ff_X0_15 : FLf RX0 15 0 4 := ⟨RX0, TX0, 6, tyX0, rfl, inX0, by decide, (tb_at 436 (by decide +kernel) (by decide +kernel)), tyX0_ok, nmX0, rfl, rfl, fun _ => rfl, fun _ => rfl⟩
theorem ff_X0_18 : FLf RX0 18 0 5 := ⟨RX0, TX0, 6, tyX0, rfl, inX0, by decide, (tb_at 437 (by decide +kernel) (by decide +kernel)), tyX0_ok, nmX0, rfl, rfl, fun _ => rfl, fun _ => rfl⟩
theorem ff_X0_21 : FLf RX0 21 0 0 := ⟨RX0, TX0, 6, tyX0, rfl, inX0, by decide, (tb_at 430 (by decide +kernel) (by decide +kernel)), tyX0_ok, nmX0, rfl, rfl, fun _ => rfl, fun _ => rfl⟩
theorem ff_X1_9 : FLf RX1 9 1 1 := ⟨RX1, TX1, 7, tyX1, rfl, inX1, by decide, (tb_at 400 (by decide +kernel) (by decide +kernel)), tyX1_ok, nmX1, rfl, rfl, fun _ => rfl, fun _ => rfl⟩
theorem ff_X1_15 : FLf RX1 15 1 3 := ⟨RX1, TX1, 7, tyX1, rfl, inX1, by decide, (tb_at 402 (by decide +kernel) (by decide +kernel)), tyX1_ok, nmX1, rfl, rfl, fun _ => rfl, fun _ => rfl⟩
theorem ff_X1_18 : FLf RX1 18 1 4 := ⟨RX1, TX1, 7, tyX1, rfl, inX1, by decide, (tb_at 403 (by decide +kernel) (by decide +kernel)), tyX1_ok, nmX1, rfl, rfl, fun _ => rfl, fun _ => rfl⟩
theorem ff_X1_21 : FLf RX1 21 1 0 := ⟨RX1, TX1, 7, tyX1, rfl, inX1, by decide, (tb_at 399 (by decide +kernel) (by decide +kernel)), tyX1_ok, nmX1, rfl, rfl, fun _ => rfl, fun _ => rfl⟩
theorem ff_X2_9 : FLf RX2 9 2 0 := ⟨RX2, TX2, 2, tyX2, rfl, inX2, by decide, (tb_at 337 (by decide +kernel) (by decide +kernel)), tyX2_ok, nmX2, rfl, rfl, fun _ => rfl, fun _ => rfl⟩
theorem ff_X2_15 : FLf RX2 15 2 1 := ⟨RX2, TX2, 2, tyX2, rfl, inX2, by decide, (tb_at 341 (by decide +kernel) (by decide +kernel)), tyX2_ok, nmX2, rfl, rfl, fun _ => rfl, fun _ => rfl⟩
theorem ff_X3_9 : FLf RX3 9 3 3 := ⟨RX3, TX3, 10, tyX3, rfl, inX3, by decide, (tb_at 359 (by decide +kernel) (by decide +kernel)), tyX3_ok, nmX3, rfl, rfl, fun _ => rfl, fun _ => rfl⟩
theorem ff_X3_15 : FLf RX3 15 3 0 := ⟨RX3, TX3, 10, tyX3, rfl, inX3, by decide, (tb_at 356 (by decide +kernel) (by decide +kernel)), tyX3_ok, nmX3, rfl, rfl, fun _ => rfl, fun _ => rfl⟩
theorem ff_X3_25 : FLf RX3 25 3 1 := ⟨RX3, TX3, 10, tyX3, rfl, inX3, by decide, (tb_at 357 (by decide +kernel) (by decide +kernel)), tyX3_ok, nmX3, rfl, rfl, fun _ => rfl, fun _ => rfl⟩
theorem ff_X3_26 : FLf RX3 26 3 2 := ⟨RX3, TX3, 10, tyX3, rfl, inX3, by decide, (tb_at 358 (by decide +kernel) (by decide +kernel)), tyX3_ok, nmX3, rfl, rfl, fun _ => rfl, fun _ => rfl⟩
theorem ff_X4_9 : FLf RX4 9 4 4 := ⟨RX4, TX4, 12, tyX4, rfl, inX4, by decide, (tb_at 161 (by decide +kernel) (by decide +kernel)), tyX4_ok, nmX4, rfl, rfl, fun _ => rfl, fun _ => rfl⟩
theorem ff_X4_15 : FLf RX4 15 4 5 := ⟨RX4, TX4, 12, tyX4, rfl, inX4, by decide, (tb_at 164 (by decide +kernel) (by decide +kernel)), tyX4_ok, nmX4, rfl, rfl, fun _ => rfl, fun _ => rfl⟩
theorem ff_X4_18 : FLf RX4 18 4 6 := ⟨RX4, TX4, 12, tyX4, rfl, inX4, by decide, (tb_at 168 (by decide +kernel) (by decide +kernel)), tyX4_ok, nmX4, rfl, rfl, fun _ => rfl, fun _ => rfl⟩
theorem ff_X4_21 : FLf RX4 21 4 7 := ⟨RX4, TX4, 12, tyX4, rfl, inX4, by decide, (tb_at 172 (by decide +kernel) (by decide +kernel)), tyX4_ok, nmX4, rfl, rfl, fun _ => rfl, fun _ => rfl⟩
theorem ff_X4_24 : FLf RX4 24 4 8 := ⟨RX4, TX4, 12, tyX4, rfl, inX4, by decide, (tb_at 176 (by decide +kernel) (by decide +kernel)), tyX4_ok, nmX4, rfl, rfl, fun _ => rfl, fun _ => rfl⟩
theorem ff_X4_27 : FLf RX4 27 4 9 := ⟨RX4, TX4, 12, tyX4, rfl, inX4, by decide, (tb_at 178 (by decide +kernel) (by decide +kernel)), tyX4_ok, nmX4, rfl, rfl, fun _ => rfl, fun _ => rfl⟩
theorem ff_X4_30 : FLf RX4 30 4 10 := ⟨RX4, TX4, 12, tyX4, rfl, inX4, by decide, (tb_at 182 (by decide +kernel) (by decide +kernel)), tyX4_ok, nmX4, rfl, rfl, fun _ => rfl, fun _ => rfl⟩
theorem ff_X4_33 : FLf RX4 33 4 11 := ⟨RX4, TX4, 12, tyX4, rfl, inX4, by decide, (tb_at 186 (by decide +kernel) (by decide +kernel)), tyX4_ok, nmX4, rfl, rfl, fun _ => rfl, fun _ => rfl⟩
theorem ff_X4_36 : FLf RX4 36 4 0 := ⟨RX4, TX4, 12, tyX4, rfl, inX4, by decide, (tb_at 142 (by decide +kernel) (by decide +kernel)), tyX4_ok, nmX4, rfl, rfl, fun _ => rfl, fun _ => rfl⟩
theorem ff_X5_9 : FLf RX5 9 5 4 := ⟨RX5, TX5, 9, tyX5, rfl, inX5, by decide, (tb_at 92 (by decide +kernel) (by decide +kernel)), tyX5_ok, nmX5, rfl, rfl, fun _ => rfl, fun _ => rfl⟩
theorem ff_X5_15 : FLf RX5 15 5 5 := ⟨RX5, TX5, 9, tyX5, rfl, inX5, by decide, (tb_at 96 (by decide +kernel) (by decide +kernel)), tyX5_ok, nmX5, rfl, rfl, fun _ => rfl, fun _ => rfl⟩
theorem ff_X5_18 : FLf RX5 18 5 6 := ⟨RX5, TX5, 9, tyX5, rfl, inX5, by decide, (tb_at 100 (by decide +kernel) (by decide +kernel)), tyX5_ok, nmX5, rfl, rfl, fun _ => rfl, fun _ => rfl⟩
theorem ff_X5_21 : FLf RX5 21 5 7 := ⟨RX5, TX5, 9, tyX5, rfl, inX5, by decide, (tb_at 107 (by decide +kernel) (by decide +kernel)), tyX5_ok, nmX5, rfl, rfl, fun _ => rfl, fun _ => rfl⟩
theorem ff_X5_24 : FLf RX5 24 5 8 := ⟨RX5, TX5, 9, tyX5, rfl, inX5, by decide, (tb_at 112 (by decide +kernel) (by decide +kernel)), tyX5_ok, nmX5, rfl, rfl, fun _ => rfl, fun _ => rfl⟩
theorem ff_X6_12 : FLf RX6 12 6 1 := ⟨RX6, TX6, 3, tyX6, rfl, inX6, by decide, (tb_at 214 (by decide +kernel) (by decide +kernel)), tyX6_ok, nmX6, rfl, rfl, fun _ => rfl, fun _ => rfl⟩
theorem ff_X6_23 : FLf RX6 23 6 2 := ⟨RX6, TX6, 3, tyX6, rfl, inX6, by decide, (tb_at 216 (by decide +kernel) (by decide +kernel)), tyX6_ok, nmX6, rfl, rfl, fun _ => rfl, fun _ => rfl⟩
theorem ff_X6_27 : FLf RX6 27 6 0 := ⟨RX6, TX6, 3, tyX6, rfl, inX6, by decide, (tb_at 213 (by decide +kernel) (by decide +kernel)), tyX6_ok, nmX6, rfl, rfl, fun _ => rfl, fun _ => rfl⟩
theorem ff_X7_9 : FLf RX7 9 7 0 := ⟨RX7, TX7, 7, tyX7, rfl, inX7, by decide, (tb_at 237 (by decide +kernel) (by decide +kernel)), tyX7_ok, nmX7, rfl, rfl, fun _ => rfl, fun _ => rfl⟩
theorem ff_X7_15 : FLf RX7 15 7 2 := ⟨RX7, TX7, 7, tyX7, rfl, inX7, by decide, (tb_at 240 (by decide +kernel) (by decide +kernel)), tyX7_ok, nmX7, rfl, rfl, fun _ => rfl, fun _ => rfl⟩
theorem ff_X7_18 : FLf RX7 18 7 3 := ⟨RX7, TX7, 7, tyX7, rfl, inX7, by decide, (tb_at 242 (by decide +kernel) (by decide +kernel)), tyX7_ok, nmX7, rfl, rfl, fun _ => rfl, fun _ => rfl⟩
theorem ff_X7_21 : FLf RX7 21 7 4 := ⟨RX7, TX7, 7, tyX7, rfl, inX7, by decide, (tb_at 244 (by decide +kernel) (by decide +kernel)), tyX7_ok, nmX7, rfl, rfl, fun _ => rfl, fun _ => rfl⟩
theorem ff_X7_24 : FLf RX7 24 7 6 := ⟨RX7, TX7, 7, tyX7, rfl, inX7, by decide, (tb_at 248 (by decide +kernel) (by decide +kernel)), tyX7_ok, nmX7, rfl, rfl, fun _ => rfl, fun _ => rfl⟩
theorem ff_X8_12 : FLf RX8 12 8 1 := ⟨RX8, TX8, 3, tyX8, rfl, inX8, by decide, (tb_at 266 (by decide +kernel) (by decide +kernel)), tyX8_ok, nmX8, rfl, rfl, fun _ => rfl, fun _ => rfl⟩
theorem ff_X8_18 : FLf RX8 18 8 0 := ⟨RX8, TX8, 3, tyX8, rfl, inX8, by decide, (tb_at 265 (by decide +kernel) (by decide +kernel)), tyX8_ok, nmX8, rfl, rfl, fun _ => rfl, fun _ => rfl⟩
theorem ff_X9_12 : FLf RX9 12 9 0 := ⟨RX9, TX9, 10, tyX9, rfl, inX9, by decide, (tb_at 287 (by decide +kernel) (by decide +kernel)), tyX9_ok, nmX9, rfl, rfl, fun _ => rfl, fun _ => rfl⟩
theorem ff_X9_23 : FLf RX9 23 9 1 := ⟨RX9, TX9, 10, tyX9, rfl, inX9, by decide, (tb_at 290 (by decide +kernel) (by decide +kernel)), tyX9_ok, nmX9, rfl, rfl, fun _ => rfl, fun _ => rfl⟩
theorem ff_X9_27 : FLf RX9 27 9 2 := ⟨RX9, TX9, 10, tyX9, rfl, inX9, by decide, (tb_at 292 (by decide +kernel) (by decide +kernel)), tyX9_ok, nmX9, rfl, rfl, fun _ => rfl, fun _ => rfl⟩
theorem ff_X9_31 : FLf RX9 31 9 6 := ⟨RX9, TX9, 10, tyX9, rfl, inX9, by decide, (tb_at 299 (by decide +kernel) (by decide +kernel)), tyX9_ok, nmX9, rfl, rfl, fun _ => rfl, fun _ => rfl⟩
theorem ff_X9_35 : FLf RX9 35 9 7 := ⟨RX9, TX9, 10, tyX9, rfl, inX9, by decide, (tb_at 301 (by decide +kernel) (by decide +kernel)), tyX9_ok, nmX9, rfl, rfl, fun _ => rfl, fun _ => rfl⟩
theorem ff_X9_38 : FLf RX9 38 9 8 := ⟨RX9, TX9, 10, tyX9, rfl, inX9, by decide, (tb_at 303 (by decide +kernel) (by decide +kernel)), tyX9_ok, nmX9, rfl, rfl, fun _ => rfl, fun _ => rfl⟩
theorem ff_X10_9 : FLf RX10 9 10 0 := ⟨RX10, TX10, 5, tyX10, rfl, inX10, by decide, (tb_at 36 (by decide +kernel) (by decide +kernel)), tyX10_ok, nmX10, rfl, rfl, fun _ => rfl, fun _ => rfl⟩
theorem ff_X12_9 : FLf RX12 9 12 1 := ⟨RX12, TX12, 73, tyX12, rfl, inX12, by decide, (tb_at 1143 (by decide +kernel) (by decide +kernel)), tyX12_ok, nmX12, rfl, rfl, fun _ => rfl, fun _ => rfl⟩
theorem ff_X12_13 : FLf RX12 13 12 2 := ⟨RX12, TX12, 73, tyX12, rfl, inX12, by decide, (tb_at 1144 (by decide +kernel) (by decide +kernel)), tyX12_ok, nmX12, rfl, rfl, fun _ => rfl, fun _ => rfl⟩
theorem ff_X12_16 : FLf RX12 16 12 3 := ⟨RX12, TX12, 73, tyX12, rfl, inX12, by decide, (tb_at 1145 (by decide +kernel) (by decide +kernel)), tyX12_ok, nmX12, rfl, rfl, fun _ => rfl, fun _ => rfl⟩
theorem ff_X12_19 : FLf RX12 19 12 4 := ⟨RX12, TX12, 73, tyX12, rfl, inX12, by decide, (tb_at 1146 (by decide +kernel) (by decide +kernel)), tyX12_ok, nmX12, rfl, rfl, fun _ => rfl, fun _ => rfl⟩
theorem ff_X12_22 : FLf RX12 22 12 5 := ⟨RX12, TX12, 73, tyX12, rfl, inX12, by decide, (tb_at 1147 (by decide +kernel) (by decide +kernel)), tyX12_ok, nmX12, rfl, rfl, fun _ => rfl, fun _ => rfl⟩
theorem ff_X12_25 : FLf RX12 25 12 6 := ⟨RX12, TX12, 73, tyX12, rfl, inX12, by decide, (tb_at 1148 (by decide +kernel) (by decide +kernel)), tyX12_ok, nmX12, rfl, rfl, fun _ => rfl, fun _ => rfl⟩
theorem ff_X12_28 : FLf RX12 28 12 7 := ⟨RX12, TX12, 73, tyX12, rfl, inX12, by decide, (tb_at 1149 (by decide +kernel) (by decide +kernel)), tyX12_ok, nmX12, rfl, rfl, fun _ => rfl, fun _ => rfl⟩
theorem ff_X12_31 : FLf RX12 31 12 8 := ⟨RX12, TX12, 73, tyX12, rfl, inX12, by decide, (tb_at 1150 (by decide +kernel) (by decide +kernel)), tyX12_ok, nmX12, rfl, rfl, fun _ => rfl, fun _ => rfl⟩
theorem ff_X12_34 : FLf RX12 34 12 9 := ⟨RX12, TX12, 73, tyX12, rfl, inX12, by decide, (tb_at 1151 (by decide +kernel) (by decide +kernel)), tyX12_ok, nmX12, rfl, rfl, fun _ => rfl, fun _ => rfl⟩
theorem ff_X12_37 : FLf RX12 37 12 10 := ⟨RX12, TX12, 73, tyX12, rfl, inX12, by decide, (tb_at 1152 (by decide +kernel) (by decide +kernel)), tyX12_ok, nmX12, rfl, rfl, fun _ => rfl, fun _ => rfl⟩
theorem ff_X12_40 : FLf RX12 40 12 11 := ⟨RX12, TX12, 73, tyX12, rfl, inX12, by decide, (tb_at 1153 (by decide +kernel) (by decide +kernel)), tyX12_ok, nmX12, rfl, rfl, fun _ => rfl, fun _ => rfl⟩
theorem ff_X12_43 : FLf RX12 43 12 12 := ⟨RX12, TX12, 73, tyX12, rfl, inX12, by decide, (tb_at 1154 (by decide +kernel) (by decide +kernel)), tyX12_ok, nmX12, rfl, rfl, fun _ => rfl, fun _ => rfl⟩
theorem ff_X12_46 : FLf RX12 46 12 13 := ⟨RX12, TX12, 73, tyX12, rfl, inX12, by decide, (tb_at 1155 (by decide +kernel) (by decide +kernel)), tyX12_ok, nmX12, rfl, rfl, fun _ => rfl, fun _ => rfl⟩
theorem ff_X12_49 : FLf RX12 49 12 14 := ⟨RX12, TX12, 73, tyX12, rfl, inX12, by decide, (tb_at 1156 (by decide +kernel) (by decide +kernel)), tyX12_ok, nmX12, rfl, rfl, fun _ => rfl, fun _ => rfl⟩
theorem ff_X12_52 : FLf RX12 52 12 15 := ⟨RX12, TX12, 73, tyX12, rfl, inX12, by decide, (tb_at 1157 (by decide +kernel) (by decide +kernel)), tyX12_ok, nmX12, rfl, rfl, fun _ => rfl, fun _ => rfl⟩
theorem ff_X12_55 : FLf RX12 55 12 16 := ⟨RX12, TX12, 73, tyX12, rfl, inX12, by decide, (tb_at 1158 (by decide +kernel) (by decide +kernel)), tyX12_ok, nmX12, rfl, rfl, fun _ => rfl, fun _ => rfl⟩
theorem ff_X12_58 : FLf RX12 58 12 17 := ⟨RX12, TX12, 73, tyX12, rfl, inX12, by decide, (tb_at 1159 (by decide +kernel) (by decide +kernel)), tyX12_ok, nmX12, rfl, rfl, fun _ => rfl, fun _ => rfl⟩
theorem ff_X12_61 : FLf RX12 61 12 18 := ⟨RX12, TX12, 73, tyX12, rfl, inX12, by decide, (tb_at 1160 (by decide +kernel) (by decide +kernel)), tyX12_ok, nmX12, rfl, rfl, fun _ => rfl, fun _ => rfl⟩
theorem ff_X12_64 : FLf RX12 64 12 19 := ⟨RX12, TX12, 73, tyX12, rfl, inX12, by decide, (tb_at 1161 (by decide +kernel) (by decide +kernel)), tyX12_ok, nmX12, rfl, rfl, fun _ => rfl, fun _ => rfl⟩
theorem ff_X12_67 : FLf RX12 67 12 20 := ⟨RX12, TX12, 73, tyX12, rfl, inX12, by decide, (tb_at 1162 (by decide +kernel) (by decide +kernel)), tyX12_ok, nmX12, rfl, rfl, fun _ => rfl, fun _ => rfl⟩
theorem ff_X12_70 : FLf RX12 70 12 21 := ⟨RX12, TX12, 73, tyX12, rfl, inX12, by decide, (tb_at 1163 (by decide +kernel) (by decide +kernel)), tyX12_ok, nmX12, rfl, rfl, fun _ => rfl, fun _ => rfl⟩
theorem ff_X12_73 : FLf RX12 73 12 22 := ⟨RX12, TX12, 73, tyX12, rfl, inX12, by decide, (tb_at 1164 (by decide +kernel) (by decide +kernel)), tyX12_ok, nmX12, rfl, rfl, fun _ => rfl, fun _ => rfl⟩
theorem ff_X12_76 : FLf RX12 76 12 23 := ⟨RX12, TX12, 73, tyX12, rfl, inX12, by decide, (tb_at 1165 (by decide +kernel) (by decide +kernel)), tyX12_ok, nmX12, rfl, rfl, fun _ => rfl, fun _ => rfl⟩
theorem ff_X12_79 : FLf RX12 79 12 24 := ⟨RX12, TX12, 73, tyX12, rfl, inX12, by decide, (tb_at 1166 (by decide +kernel) (by decide +kernel)), tyX12_ok, nmX12, rfl, rfl, fun _ => rfl, fun _ => rfl⟩
theorem ff_X12_82 : FLf RX12 82 12 25 := ⟨RX12, TX12, 73, tyX12, rfl, inX12, by decide, (tb_at 1167 (by decide +kernel) (by decide +kernel)), tyX12_ok, nmX12, rfl, rfl, fun _ => rfl, fun _ => rfl⟩
theorem ff_X12_85 : FLf RX12 85 12 26 := ⟨RX12, TX12, 73, tyX12, rfl, inX12, by decide, (tb_at 1168 (by decide +kernel) (by decide +kernel)), tyX12_ok, nmX12, rfl, rfl, fun _ => rfl, fun _ => rfl⟩
theorem ff_X12_88 : FLf RX12 88 12 27 := ⟨RX12, TX12, 73, tyX12, rfl, inX12, by decide, (tb_at 1169 (by decide +kernel) (by decide +kernel)), tyX12_ok, nmX12, rfl, rfl, fun _ => rfl, fun _ => rfl⟩
theorem ff_X12_91 : FLf RX12 91 12 28 := ⟨RX12, TX12, 73, tyX12, rfl, inX12, by decide, (tb_at 1170 (by decide +kernel) (by decide +kernel)), tyX12_ok, nmX12, rfl, rfl, fun _ => rfl, fun _ => rfl⟩
theorem ff_X12_94 : FLf RX12 94 12 29 := ⟨RX12, TX12, 73, tyX12, rfl, inX12, by decide, (tb_at 1171 (by decide +kernel) (by decide +kernel)), tyX12_ok, nmX12, rfl, rfl, fun _ => rfl, fun _ => rfl⟩
theorem ff_X12_97 : FLf RX12 97 12 30 := ⟨RX12, TX12, 73, tyX12, rfl, inX12, by decide, (tb_at 1172 (by decide +kernel) (by decide +kernel)), tyX12_ok, nmX12, rfl, rfl, fun _ => rfl, fun _ => rfl⟩
theorem ff_X12_104 : FLf RX12 104 12 41 := ⟨RX12, TX12, 73, tyX12, rfl, inX12, by decide, (tb_at 1183 (by decide +kernel) (by decide +kernel)), tyX12_ok, nmX12, rfl, rfl, fun _ => rfl, fun _ => rfl⟩
theorem ff_X12_108 : FLf RX12 108 12 42 := ⟨RX12, TX12, 73, tyX12, rfl, inX12, by decide, (tb_at 1184 (by decide +kernel) (by decide +kernel)), tyX12_ok, nmX12, rfl, rfl, fun _ => rfl, fun _ => rfl⟩
theorem ff_X12_111 : FLf RX12 111 12 43 := ⟨RX12, TX12, 73, tyX12, rfl, inX12, by decide, (tb_at 1185 (by decide +kernel) (by decide +kernel)), tyX12_ok, nmX12, rfl, rfl, fun _ => rfl, fun _ => rfl⟩
theorem ff_X12_114 : FLf RX12 114 12 44 := ⟨RX12, TX12, 73, tyX12, rfl, inX12, by decide, (tb_at 1186 (by decide +kernel) (by decide +kernel)), tyX12_ok, nmX12, rfl, rfl, fun _ => rfl, fun _ => rfl⟩
theorem ff_X12_117 : FLf RX12 117 12 45 := ⟨RX12, TX12, 73, tyX12, rfl, inX12, by decide, (tb_at 1187 (by decide +kernel) (by decide +kernel)), tyX12_ok, nmX12, rfl, rfl, fun _ => rfl, fun _ => rfl⟩
theorem ff_X12_120 : FLf RX12 120 12 46 := ⟨RX12, TX12, 73, tyX12, rfl, inX12, by decide, (tb_at 1188 (by decide +kernel) (by decide +kernel)), tyX12_ok, nmX12, rfl, rfl, fun _ => rfl, fun _ => rfl⟩
theorem ff_X12_123 : FLf RX12 123 12 47 := ⟨RX12, TX12, 73, tyX12, rfl, inX12, by decide, (tb_at 1189 (by decide +kernel) (by decide +kernel)), tyX12_ok, nmX12, rfl, rfl, fun _ => rfl, fun _ => rfl⟩
theorem ff_X12_126 : FLf RX12 126 12 48 := ⟨RX12, TX12, 73, tyX12, rfl, inX12, by decide, (tb_at 1190 (by decide +kernel) (by decide +kernel)), tyX12_ok, nmX12, rfl, rfl, fun _ => rfl, fun _ => rfl⟩
theorem ff_X12_129 : FLf RX12 129 12 49 := ⟨RX12, TX12, 73, tyX12, rfl, inX12, by decide, (tb_at 1191 (by decide +kernel) (by decide +kernel)), tyX12_ok, nmX12, rfl, rfl, fun _ => rfl, fun _ => rfl⟩
theorem ff_X12_133 : FLf RX12 133 12 50 := ⟨RX12, TX12, 73, tyX12, rfl, inX12, by decide, (tb_at 1192 (by decide +kernel) (by decide +kernel)), tyX12_ok, nmX12, rfl, rfl, fun _ => rfl, fun _ => rfl⟩
theorem ff_X12_136 : FLf RX12 136 12 53 := ⟨RX12, TX12, 73, tyX12, rfl, inX12, by decide, (tb_at 1195 (by decide +kernel) (by decide +kernel)), tyX12_ok, nmX12, rfl, rfl, fun _ => rfl, fun _ => rfl⟩
theorem ff_X12_139 : FLf RX12 139 12 54 := ⟨RX12, TX12, 73, tyX12, rfl, inX12, by decide, (tb_at 1196 (by decide +kernel) (by decide +kernel)), tyX12_ok, nmX12, rfl, rfl, fun _ => rfl, fun _ => rfl⟩
theorem ff_X12_142 : FLf RX12 142 12 58 := ⟨RX12, TX12, 73, tyX12, rfl, inX12, by decide, (tb_at 1200 (by decide +kernel) (by decide +kernel)), tyX12_ok, nmX12, rfl, rfl, fun _ => rfl, fun _ => rfl⟩
theorem ff_X12_145 : FLf RX12 145 12 59 := ⟨RX12, TX12, 73, tyX12, rfl, inX12, by decide, (tb_at 1201 (by decide +kernel) (by decide +kernel)), tyX12_ok, nmX12, rfl, rfl, fun _ => rfl, fun _ => rfl⟩
theorem ff_X12_148 : FLf RX12 148 12 60 := ⟨RX12, TX12, 73, tyX12, rfl, inX12, by decide, (tb_at 1202 (by decide +kernel) (by decide +kernel)), tyX12_ok, nmX12, rfl, rfl, fun _ => rfl, fun _ => rfl⟩
theorem ff_X12_151 : FLf RX12 151 12 63 := ⟨RX12, TX12, 73, tyX12, rfl, inX12, by decide, (tb_at 1205 (by decide +kernel) (by decide +kernel)), tyX12_ok, nmX12, rfl, rfl, fun _ => rfl, fun _ => rfl⟩
theorem ff_X12_154 : FLf RX12 154 12 64 := ⟨RX12, TX12, 73, tyX12, rfl, inX12, by decide, (tb_at 1206 (by decide +kernel) (by decide +kernel)), tyX12_ok, nmX12, rfl, rfl, fun _ => rfl, fun _ => rfl⟩
theorem ff_X12_157 : FLf RX12 157 12 65 := ⟨RX12, TX12, 73, tyX12, rfl, inX12, by decide, (tb_at 1207 (by decide +kernel) (by decide +kernel)), tyX12_ok, nmX12, rfl, rfl, fun _ => rfl, fun _ => rfl⟩
theorem ff_X12_160 : FLf RX12 160 12 67 := ⟨RX12, TX12, 73, tyX12, rfl, inX12, by decide, (tb_at 1209 (by decide +kernel) (by decide +kernel)), tyX12_ok, nmX12, rfl, rfl, fun _ => rfl, fun _ => rfl⟩
theorem ff_X12_163 : FLf RX12 163 12 68 := ⟨RX12, TX12, 73, tyX12, rfl, inX12, by decide, (tb_at 1210 (by decide +kernel) (by decide +kernel)), tyX12_ok, nmX12, rfl, rfl, fun _ => rfl, fun _ => rfl⟩
theorem ff_X12_167 : FLf RX12 167 12 69 := ⟨RX12, TX12, 73, tyX12, rfl, inX12, by decide, (tb_at 1211 (by decide +kernel) (by decide +kernel)), tyX12_ok, nmX12, rfl, rfl, fun _ => rfl, fun _ => rfl⟩
theorem ff_X12_170 : FLf RX12 170 12 70 := ⟨RX12, TX12, 73, tyX12, rfl, inX12, by decide, (tb_at 1212 (by decide +kernel) (by decide +kernel)), tyX12_ok, nmX12, rfl, rfl, fun _ => rfl, fun _ => rfl⟩
theorem ap_set0 {α : Type} {a b : List α} {r : Nat} {y : α} (h : a.length = r) : (a ++ b).set r y = a ++ b.set 0 y := ap_set (k := 0) h
theorem Zr_mz (i : Nat) : Zr mz i := ⟨rfl, rfl⟩
theorem Zr_wI {m : Mm} {i j k : Nat} {x : Int32} (h : j ≠ i) (hz : Zr m j) : Zr (wI m i k x) j := ⟨(va_up_ne _ _ h).trans hz.1, hz.2⟩
