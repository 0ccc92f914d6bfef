def zC (own : String) (idx len : Nat) (byt : List Int32) : List Cond := [Cond.exactly (.string own idx) "java/lang/String", Cond.eq (.field (.string own idx) "java/lang/String" "coder" "B") (.int 0), Cond.arrayOf (.field (.string own idx) "java/lang/String" "value" "[B") .byte, Cond.eq (.length (.field (.string own idx) "java/lang/String" "value" "[B")) (.int (Int32.ofNat len))] ++ (List.range len).map (fun j => Cond.eq (.elem (.field (.string own idx) "java/lang/String" "value" "[B") (.int (Int32.ofNat j))) (.int (byt.getD j 0)))
theorem z_in {cs : List Cond} (ps : List Nat) (hp : cs = ps.filterMap (fun k => (flatC (Jvm.Cond.and given_1 narrow_1))[k]?)) : ∀ c ∈ cs, c ∈ flatC (Jvm.Cond.and given_1 narrow_1) := by
  intro c hc
  rw [hp] at hc
  obtain ⟨k, -, hk⟩ := List.mem_filterMap.mp hc
  exact List.mem_of_getElem? hk
theorem z_one {args : Array Value} {s : State} {A : Nat → Prop} {own : String} {idx len : Nat} {byt : List Int32} (hlen : len < 2 ^ 31) (h : ∀ c ∈ zC own idx len byt, c.before args s = true) (hA : ∀ a : Nat, a < s.heap.size → ¬ A a) :
    ∃ aK aV : Nat, (va_O "java/lang/String" aK A s s.heap ∧ va_OF "java/lang/String" "coder" "B" (.int 0) aK A s s.heap ∧ va_OF "java/lang/String" "value" "[B" (.ref aV) aK A s s.heap ∧ va_T .byte aV len (fun j => .int (byt.getD j 0)) A s s.heap) ∧ (Term.string own idx).eval args s none [] s = some (.ref aK) := by
  have hm : ∀ (k : Nat) (c : Cond), (zC own idx len byt)[k]? = some c → c.before args s = true := fun k c hk => h c (List.mem_of_getElem? hk)
  obtain ⟨adK, adV, hS, hE⟩ := vk_Sof (args := args) (s := s) (N := 1) (tm := fun _ => .string own idx) (len := [len]) (byt := [byt]) (A := A)
    (fun i hi => by rw [show i = 0 by omega]; exact hlen)
    (fun i hi => hm 0 _ rfl) (fun i hi => hm 1 _ rfl) (fun i hi => hm 2 _ rfl)
    (fun i hi => by rw [show i = 0 by omega]; exact hm 3 _ rfl)
    (fun i hi j hj => by
      rw [show i = 0 by omega] at hj ⊢
      exact h _ (List.mem_append_right _ (List.mem_map.mpr ⟨j, List.mem_range.mpr hj, rfl⟩)))
    (fun i j hi hj hne => absurd (show i = j by omega) hne) hA
  exact ⟨adK 0, adV 0, hS.1 0 (by decide), hE 0 (by decide)⟩
set_option maxRecDepth 100000 in
theorem zc_0 : ∀ c ∈ zC "PartyRaft$RiverReader" 59 29 [114, 105, 118, 101, 114, 32, 111, 119, 110, 101, 114, 32, 116, 104, 105, 110, 103, 32, 98, 111, 117, 110, 100, 32, 114, 97, 112, 105, 100], c ∈ flatC (Jvm.Cond.and given_1 narrow_1) := z_in [48, 49, 50, 51, 52, 53, 54, 55, 56, 57, 58, 59, 60, 61, 62, 63, 64, 65, 66, 67, 68, 69, 70, 71, 72, 73, 74, 75, 76, 77, 78, 79, 80] (by decide +kernel)
set_option maxRecDepth 100000 in
theorem zc_1 : ∀ c ∈ zC "PartyRaft$RuleReader" 34 3 [116, 105, 101], c ∈ flatC (Jvm.Cond.and given_1 narrow_1) := z_in [81, 82, 83, 84, 85, 86, 87] (by decide +kernel)
set_option maxRecDepth 100000 in
theorem zc_2 : ∀ c ∈ zC "PartyRaft$RuleReader" 119 68 [111, 110, 101, 32, 111, 116, 104, 101, 114, 32, 102, 108, 111, 97, 116, 32, 119, 101, 105, 103, 104, 116, 32, 115, 111, 97, 107, 32, 115, 97, 109, 101, 32, 97, 112, 97, 114, 116, 32, 114, 111, 112, 101, 115, 32, 115, 116, 111, 114, 101, 32, 109, 105, 108, 101, 32, 108, 97, 110, 100, 105, 110, 103, 32, 108, 101, 102, 116], c ∈ flatC (Jvm.Cond.and given_1 narrow_1) := z_in [88, 89, 90, 91, 92, 93, 94, 95, 96, 97, 98, 99, 100, 101, 102, 103, 104, 105, 106, 107, 108, 109, 110, 111, 112, 113, 114, 115, 116, 117, 118, 119, 120, 121, 122, 123, 124, 125, 126, 127, 128, 129, 130, 131, 132, 133, 134, 135, 136, 137, 138, 139, 140, 141, 142, 143, 144, 145, 146, 147, 148, 149, 150, 151, 152, 153, 154, 155, 156, 157, 158, 159] (by decide +kernel)
set_option maxRecDepth 100000 in
theorem zc_3 : ∀ c ∈ zC "PartyRaft$RuleReader" 64 2 [105, 102], c ∈ flatC (Jvm.Cond.and given_1 narrow_1) := z_in [160, 161, 162, 163, 164, 165] (by decide +kernel)
set_option maxRecDepth 100000 in
theorem zc_4 : ∀ c ∈ zC "PartyRaft$RuleReader" 94 3 [110, 111, 116], c ∈ flatC (Jvm.Cond.and given_1 narrow_1) := z_in [166, 167, 168, 169, 170, 171, 172] (by decide +kernel)
set_option maxRecDepth 100000 in
theorem zc_5 : ∀ c ∈ zC "PartyRaft$RuleReader" 86 3 [97, 110, 100], c ∈ flatC (Jvm.Cond.and given_1 narrow_1) := z_in [173, 174, 175, 176, 177, 178, 179] (by decide +kernel)
set_option maxRecDepth 100000 in
theorem zc_6 : ∀ c ∈ zC "PartyRaft$RuleReader" 88 2 [111, 114], c ∈ flatC (Jvm.Cond.and given_1 narrow_1) := z_in [180, 181, 182, 183, 184, 185] (by decide +kernel)
set_option maxRecDepth 100000 in
theorem zc_7 : ∀ c ∈ zC "PartyRaftModel" 310 5 [114, 105, 118, 101, 114], c ∈ flatC (Jvm.Cond.and given_1 narrow_1) := z_in [186, 187, 188, 189, 190, 191, 192, 193, 194] (by decide +kernel)
set_option maxRecDepth 100000 in
theorem zc_8 : ∀ c ∈ zC "PartyRaftModel" 312 5 [111, 119, 110, 101, 114], c ∈ flatC (Jvm.Cond.and given_1 narrow_1) := z_in [195, 196, 197, 198, 199, 200, 201, 202, 203] (by decide +kernel)
set_option maxRecDepth 100000 in
theorem zc_9 : ∀ c ∈ zC "PartyRaftModel" 314 5 [116, 104, 105, 110, 103], c ∈ flatC (Jvm.Cond.and given_1 narrow_1) := z_in [204, 205, 206, 207, 208, 209, 210, 211, 212] (by decide +kernel)
set_option maxRecDepth 100000 in
theorem zc_10 : ∀ c ∈ zC "PartyRaftModel" 316 5 [98, 111, 117, 110, 100], c ∈ flatC (Jvm.Cond.and given_1 narrow_1) := z_in [213, 214, 215, 216, 217, 218, 219, 220, 221] (by decide +kernel)
set_option maxRecDepth 100000 in
theorem zc_11 : ∀ c ∈ zC "PartyRaftModel" 318 5 [114, 97, 112, 105, 100], c ∈ flatC (Jvm.Cond.and given_1 narrow_1) := z_in [222, 223, 224, 225, 226, 227, 228, 229, 230] (by decide +kernel)
set_option maxRecDepth 100000 in
theorem zc_12 : ∀ c ∈ zC "PartyRaftModel" 191 3 [111, 110, 101], c ∈ flatC (Jvm.Cond.and given_1 narrow_1) := z_in [239, 240, 241, 242, 243, 244, 245] (by decide +kernel)
set_option maxRecDepth 100000 in
theorem zc_13 : ∀ c ∈ zC "PartyRaftModel" 193 5 [111, 116, 104, 101, 114], c ∈ flatC (Jvm.Cond.and given_1 narrow_1) := z_in [246, 247, 248, 249, 250, 251, 252, 253, 254] (by decide +kernel)
set_option maxRecDepth 100000 in
theorem zc_14 : ∀ c ∈ zC "PartyRaftModel" 195 5 [102, 108, 111, 97, 116], c ∈ flatC (Jvm.Cond.and given_1 narrow_1) := z_in [255, 256, 257, 258, 259, 260, 261, 262, 263] (by decide +kernel)
set_option maxRecDepth 100000 in
theorem zc_15 : ∀ c ∈ zC "PartyRaftModel" 197 6 [119, 101, 105, 103, 104, 116], c ∈ flatC (Jvm.Cond.and given_1 narrow_1) := z_in [264, 265, 266, 267, 268, 269, 270, 271, 272, 273] (by decide +kernel)
set_option maxRecDepth 100000 in
theorem zc_16 : ∀ c ∈ zC "PartyRaftModel" 198 4 [115, 111, 97, 107], c ∈ flatC (Jvm.Cond.and given_1 narrow_1) := z_in [274, 275, 276, 277, 278, 279, 280, 281] (by decide +kernel)
set_option maxRecDepth 100000 in
theorem zc_17 : ∀ c ∈ zC "PartyRaftModel" 199 4 [115, 97, 109, 101], c ∈ flatC (Jvm.Cond.and given_1 narrow_1) := z_in [282, 283, 284, 285, 286, 287, 288, 289] (by decide +kernel)
set_option maxRecDepth 100000 in
theorem zc_18 : ∀ c ∈ zC "PartyRaftModel" 201 5 [97, 112, 97, 114, 116], c ∈ flatC (Jvm.Cond.and given_1 narrow_1) := z_in [290, 291, 292, 293, 294, 295, 296, 297, 298] (by decide +kernel)
set_option maxRecDepth 100000 in
theorem zc_19 : ∀ c ∈ zC "PartyRaftModel" 203 5 [114, 111, 112, 101, 115], c ∈ flatC (Jvm.Cond.and given_1 narrow_1) := z_in [299, 300, 301, 302, 303, 304, 305, 306, 307] (by decide +kernel)
set_option maxRecDepth 100000 in
theorem zc_20 : ∀ c ∈ zC "PartyRaftModel" 205 5 [115, 116, 111, 114, 101], c ∈ flatC (Jvm.Cond.and given_1 narrow_1) := z_in [308, 309, 310, 311, 312, 313, 314, 315, 316] (by decide +kernel)
set_option maxRecDepth 100000 in
theorem zc_21 : ∀ c ∈ zC "PartyRaftModel" 207 4 [109, 105, 108, 101], c ∈ flatC (Jvm.Cond.and given_1 narrow_1) := z_in [317, 318, 319, 320, 321, 322, 323, 324] (by decide +kernel)
set_option maxRecDepth 100000 in
theorem zc_22 : ∀ c ∈ zC "PartyRaftModel" 209 7 [108, 97, 110, 100, 105, 110, 103], c ∈ flatC (Jvm.Cond.and given_1 narrow_1) := z_in [325, 326, 327, 328, 329, 330, 331, 332, 333, 334, 335] (by decide +kernel)
set_option maxRecDepth 100000 in
theorem zc_23 : ∀ c ∈ zC "PartyRaftModel" 210 4 [108, 101, 102, 116], c ∈ flatC (Jvm.Cond.and given_1 narrow_1) := z_in [336, 337, 338, 339, 340, 341, 342, 343] (by decide +kernel)
theorem z_cs : Cond.eq (.static "java/lang/String" "COMPACT_STRINGS" "Z") (.int 1) ∈ flatC (Jvm.Cond.and given_1 narrow_1) := List.mem_of_getElem? (i := 4) (by decide +kernel)
theorem z_sf : Cond.isRef (.static "jdk/internal/util/Preconditions" "SIOOBE_FORMATTER" "Ljava/util/function/BiFunction;") ∈ flatC (Jvm.Cond.and given_1 narrow_1) := List.mem_of_getElem? (i := 5) (by decide +kernel)
theorem ze_0 : Cond.eq (.string "PartyRaft$RuleReader" 34) (.string "PartyRaftModel" 362) ∈ flatC (Jvm.Cond.and given_1 narrow_1) := List.mem_of_getElem? (i := 238) (by decide +kernel)
theorem ze_1 : Cond.eq (.string "PartyRaft$RuleReader" 64) (.string "PartyRaftModel" 364) ∈ flatC (Jvm.Cond.and given_1 narrow_1) := List.mem_of_getElem? (i := 350) (by decide +kernel)
theorem ze_2 : Cond.eq (.string "PartyRaft$RuleReader" 94) (.string "PartyRaftModel" 292) ∈ flatC (Jvm.Cond.and given_1 narrow_1) := List.mem_of_getElem? (i := 358) (by decide +kernel)
theorem ze_3 : Cond.eq (.string "PartyRaft$RuleReader" 86) (.string "PartyRaftModel" 306) ∈ flatC (Jvm.Cond.and given_1 narrow_1) := List.mem_of_getElem? (i := 366) (by decide +kernel)
theorem ze_4 : Cond.eq (.string "PartyRaft$RuleReader" 88) (.string "PartyRaftModel" 308) ∈ flatC (Jvm.Cond.and given_1 narrow_1) := List.mem_of_getElem? (i := 373) (by decide +kernel)
theorem zl_COMPACT_STRINGS : Cond.laysStatic "java/lang/String" "COMPACT_STRINGS" "Z" ∈ lw_tbl := (List.mem_append_right _ (List.mem_of_getElem? (i := 558) (by decide +kernel)))
theorem zl_SIOOBE_FORMATTER : Cond.laysStatic "jdk/internal/util/Preconditions" "SIOOBE_FORMATTER" "Ljava/util/function/BiFunction;" ∈ lw_tbl := (List.mem_append_right _ (List.mem_of_getElem? (i := 574) (by decide +kernel)))
theorem zo_X4 : Cond.arrayOver (.object "PartyRaft$Raft") ∈ lw_tbl := (List.mem_append_right _ (List.mem_of_getElem? (i := 286) (by decide +kernel)))
theorem zo_X9 : Cond.arrayOver (.object "PartyRaft$State") ∈ lw_tbl := (List.mem_append_right _ (List.mem_of_getElem? (i := 328) (by decide +kernel)))
theorem zo_X7 : Cond.arrayOver (.object "PartyRaft$Rule") ∈ lw_tbl := (List.mem_append_right _ (List.mem_of_getElem? (i := 330) (by decide +kernel)))
theorem zr_X6_59 : Cond.stringRef "PartyRaft$RiverReader" 59 "river owner thing bound rapid" ∈ lw_tbl := (List.mem_append_right _ (List.mem_of_getElem? (i := 537) (by decide +kernel)))
theorem zr_X8_34 : Cond.stringRef "PartyRaft$RuleReader" 34 "tie" ∈ lw_tbl := (List.mem_append_right _ (List.mem_of_getElem? (i := 685) (by decide +kernel)))
theorem zr_X8_119 : Cond.stringRef "PartyRaft$RuleReader" 119 "one other float weight soak same apart ropes store mile landing left" ∈ lw_tbl := (List.mem_append_right _ (List.mem_of_getElem? (i := 708) (by decide +kernel)))
theorem zr_X8_64 : Cond.stringRef "PartyRaft$RuleReader" 64 "if" ∈ lw_tbl := (List.mem_append_right _ (List.mem_of_getElem? (i := 719) (by decide +kernel)))
theorem zr_X8_94 : Cond.stringRef "PartyRaft$RuleReader" 94 "not" ∈ lw_tbl := (List.mem_append_right _ (List.mem_of_getElem? (i := 728) (by decide +kernel)))
theorem zr_X8_86 : Cond.stringRef "PartyRaft$RuleReader" 86 "and" ∈ lw_tbl := (List.mem_append_right _ (List.mem_of_getElem? (i := 737) (by decide +kernel)))
theorem zr_X8_88 : Cond.stringRef "PartyRaft$RuleReader" 88 "or" ∈ lw_tbl := (List.mem_append_right _ (List.mem_of_getElem? (i := 738) (by decide +kernel)))
theorem zr_X12_310 : Cond.stringRef "PartyRaftModel" 310 "river" ∈ lw_tbl := (List.mem_append_right _ (List.mem_of_getElem? (i := 1401) (by decide +kernel)))
theorem zr_X12_312 : Cond.stringRef "PartyRaftModel" 312 "owner" ∈ lw_tbl := (List.mem_append_right _ (List.mem_of_getElem? (i := 1402) (by decide +kernel)))
theorem zr_X12_314 : Cond.stringRef "PartyRaftModel" 314 "thing" ∈ lw_tbl := (List.mem_append_right _ (List.mem_of_getElem? (i := 1403) (by decide +kernel)))
theorem zr_X12_316 : Cond.stringRef "PartyRaftModel" 316 "bound" ∈ lw_tbl := (List.mem_append_right _ (List.mem_of_getElem? (i := 1404) (by decide +kernel)))
theorem zr_X12_318 : Cond.stringRef "PartyRaftModel" 318 "rapid" ∈ lw_tbl := (List.mem_append_right _ (List.mem_of_getElem? (i := 1405) (by decide +kernel)))
theorem zr_X12_362 : Cond.stringRef "PartyRaftModel" 362 "tie" ∈ lw_tbl := (List.mem_append_right _ (List.mem_of_getElem? (i := 1469) (by decide +kernel)))
theorem zr_X12_191 : Cond.stringRef "PartyRaftModel" 191 "one" ∈ lw_tbl := (List.mem_append_right _ (List.mem_of_getElem? (i := 1493) (by decide +kernel)))
theorem zr_X12_193 : Cond.stringRef "PartyRaftModel" 193 "other" ∈ lw_tbl := (List.mem_append_right _ (List.mem_of_getElem? (i := 1494) (by decide +kernel)))
theorem zr_X12_195 : Cond.stringRef "PartyRaftModel" 195 "float" ∈ lw_tbl := (List.mem_append_right _ (List.mem_of_getElem? (i := 1495) (by decide +kernel)))
theorem zr_X12_197 : Cond.stringRef "PartyRaftModel" 197 "weight" ∈ lw_tbl := (List.mem_append_right _ (List.mem_of_getElem? (i := 1496) (by decide +kernel)))
theorem zr_X12_198 : Cond.stringRef "PartyRaftModel" 198 "soak" ∈ lw_tbl := (List.mem_append_right _ (List.mem_of_getElem? (i := 1497) (by decide +kernel)))
theorem zr_X12_199 : Cond.stringRef "PartyRaftModel" 199 "same" ∈ lw_tbl := (List.mem_append_right _ (List.mem_of_getElem? (i := 1498) (by decide +kernel)))
theorem zr_X12_201 : Cond.stringRef "PartyRaftModel" 201 "apart" ∈ lw_tbl := (List.mem_append_right _ (List.mem_of_getElem? (i := 1499) (by decide +kernel)))
theorem zr_X12_203 : Cond.stringRef "PartyRaftModel" 203 "ropes" ∈ lw_tbl := (List.mem_append_right _ (List.mem_of_getElem? (i := 1500) (by decide +kernel)))
theorem zr_X12_205 : Cond.stringRef "PartyRaftModel" 205 "store" ∈ lw_tbl := (List.mem_append_right _ (List.mem_of_getElem? (i := 1501) (by decide +kernel)))
theorem zr_X12_207 : Cond.stringRef "PartyRaftModel" 207 "mile" ∈ lw_tbl := (List.mem_append_right _ (List.mem_of_getElem? (i := 1502) (by decide +kernel)))
theorem zr_X12_209 : Cond.stringRef "PartyRaftModel" 209 "landing" ∈ lw_tbl := (List.mem_append_right _ (List.mem_of_getElem? (i := 1503) (by decide +kernel)))
theorem zr_X12_210 : Cond.stringRef "PartyRaftModel" 210 "left" ∈ lw_tbl := (List.mem_append_right _ (List.mem_of_getElem? (i := 1504) (by decide +kernel)))
theorem zr_X12_364 : Cond.stringRef "PartyRaftModel" 364 "if" ∈ lw_tbl := (List.mem_append_right _ (List.mem_of_getElem? (i := 1505) (by decide +kernel)))
theorem zr_X12_292 : Cond.stringRef "PartyRaftModel" 292 "not" ∈ lw_tbl := (List.mem_append_right _ (List.mem_of_getElem? (i := 1518) (by decide +kernel)))
theorem zr_X12_306 : Cond.stringRef "PartyRaftModel" 306 "and" ∈ lw_tbl := (List.mem_append_right _ (List.mem_of_getElem? (i := 1535) (by decide +kernel)))
theorem zr_X12_308 : Cond.stringRef "PartyRaftModel" 308 "or" ∈ lw_tbl := (List.mem_append_right _ (List.mem_of_getElem? (i := 1536) (by decide +kernel)))
theorem z_eq {args : Array Value} {s : State} {a b : Term} {w : Nat} (h : (Cond.eq a b).before args s = true) (hb : b.eval args s none [] s = some (.ref w)) : a.eval args s none [] s = some (.ref w) := by
  obtain ⟨v, h1, h2⟩ := Cond.eq_one (show (Cond.eq a b).holds args s none s [] = true from h)
  cases hb.symm.trans h2
  exact h1
theorem z_eq' {args : Array Value} {s : State} {a b : Term} {w : Nat} (h : (Cond.eq a b).before args s = true) (ha : a.eval args s none [] s = some (.ref w)) : b.eval args s none [] s = some (.ref w) := by
  obtain ⟨v, h1, h2⟩ := Cond.eq_one (show (Cond.eq a b).holds args s none s [] = true from h)
  cases ha.symm.trans h1
  exact h2
theorem z_apart {A : Nat → Prop} {s : State} {H : Heap} {k v1 v2 n1 n2 : Nat} {f1 f2 : Nat → Int32} (h1 : va_OF "java/lang/String" "value" "[B" (.ref v1) k A s H) (h2 : va_OF "java/lang/String" "value" "[B" (.ref v2) k A s H) (t1 : va_T .byte v1 n1 (fun j => .int (f1 j)) A s H) (t2 : va_T .byte v2 n2 (fun j => .int (f2 j)) A s H) (b1 : n1 < 1000) (b2 : n2 < 1000) : n1 = n2 ∧ ∀ j, j < n1 → f1 j = f2 j := by
  obtain ⟨cf, kf, fi, f, cell, g1, g2, g3, g4, g5, -⟩ := h1
  obtain ⟨cf', kf', fi', f', cell', g1', g2', g3', g4', g5', -⟩ := h2
  cases g1.symm.trans g1'
  cases g3.symm.trans g3'
  have hv : v1 = v2 := by
    have := g5.symm.trans g5'
    cases this
    rfl
  subst hv
  obtain ⟨c1, e1, -, -, e4, e5, e6, -⟩ := t1
  obtain ⟨c2, u1, -, -, u4, u5, u6, -⟩ := t2
  cases e1.symm.trans u1
  have hn : n1 = n2 := by
    have h := e5.symm.trans u5
    have h' := (nI_eq (a := n1) (b := n2) (by omega) (by omega)).mp h
    exact h'
  subst hn
  refine ⟨rfl, fun j hj => ?_⟩
  exact Value.int.inj (Option.some.inj ((e6 j hj).symm.trans (u6 j hj)))
theorem sB_ne : ∀ i, i < 24 → ∀ j, j < 24 → i ≠ j → ¬ (sL.getD i 0 = sL.getD j 0 ∧ (List.range (sL.getD i 0)).all (fun k => (sB.getD i []).getD k 0 == (sB.getD j []).getD k 0) = true) := by decide +kernel
set_option maxHeartbeats 4000000 in
set_option maxRecDepth 100000 in
theorem z_start {b : Nat} {s : State} (hts : ∀ w ∈ lw_tbl, w.before #[Value.ref b] s = true) (hgv : (Jvm.Cond.and given_1 narrow_1).before #[Value.ref b] s = true) : ∃ zz : (Nat → Nat) × (Nat → Nat), Zw zz s.heap.size s s.heap := by
  have hs := flat_of_before _ hgv
  have hA : ∀ a : Nat, a < s.heap.size → ¬ Aq s.heap.size a := fun a h => Nat.not_le.mpr h
  obtain ⟨aK0, aV0, hZ0, hE0⟩ := z_one (A := Aq s.heap.size) (by decide) (fun c hc => hs c (zc_0 c hc)) hA
  obtain ⟨aK1, aV1, hZ1, hE1⟩ := z_one (A := Aq s.heap.size) (by decide) (fun c hc => hs c (zc_1 c hc)) hA
  obtain ⟨aK2, aV2, hZ2, hE2⟩ := z_one (A := Aq s.heap.size) (by decide) (fun c hc => hs c (zc_2 c hc)) hA
  obtain ⟨aK3, aV3, hZ3, hE3⟩ := z_one (A := Aq s.heap.size) (by decide) (fun c hc => hs c (zc_3 c hc)) hA
  obtain ⟨aK4, aV4, hZ4, hE4⟩ := z_one (A := Aq s.heap.size) (by decide) (fun c hc => hs c (zc_4 c hc)) hA
  obtain ⟨aK5, aV5, hZ5, hE5⟩ := z_one (A := Aq s.heap.size) (by decide) (fun c hc => hs c (zc_5 c hc)) hA
  obtain ⟨aK6, aV6, hZ6, hE6⟩ := z_one (A := Aq s.heap.size) (by decide) (fun c hc => hs c (zc_6 c hc)) hA
  obtain ⟨aK7, aV7, hZ7, hE7⟩ := z_one (A := Aq s.heap.size) (by decide) (fun c hc => hs c (zc_7 c hc)) hA
  obtain ⟨aK8, aV8, hZ8, hE8⟩ := z_one (A := Aq s.heap.size) (by decide) (fun c hc => hs c (zc_8 c hc)) hA
  obtain ⟨aK9, aV9, hZ9, hE9⟩ := z_one (A := Aq s.heap.size) (by decide) (fun c hc => hs c (zc_9 c hc)) hA
  obtain ⟨aK10, aV10, hZ10, hE10⟩ := z_one (A := Aq s.heap.size) (by decide) (fun c hc => hs c (zc_10 c hc)) hA
  obtain ⟨aK11, aV11, hZ11, hE11⟩ := z_one (A := Aq s.heap.size) (by decide) (fun c hc => hs c (zc_11 c hc)) hA
  obtain ⟨aK12, aV12, hZ12, hE12⟩ := z_one (A := Aq s.heap.size) (by decide) (fun c hc => hs c (zc_12 c hc)) hA
  obtain ⟨aK13, aV13, hZ13, hE13⟩ := z_one (A := Aq s.heap.size) (by decide) (fun c hc => hs c (zc_13 c hc)) hA
  obtain ⟨aK14, aV14, hZ14, hE14⟩ := z_one (A := Aq s.heap.size) (by decide) (fun c hc => hs c (zc_14 c hc)) hA
  obtain ⟨aK15, aV15, hZ15, hE15⟩ := z_one (A := Aq s.heap.size) (by decide) (fun c hc => hs c (zc_15 c hc)) hA
  obtain ⟨aK16, aV16, hZ16, hE16⟩ := z_one (A := Aq s.heap.size) (by decide) (fun c hc => hs c (zc_16 c hc)) hA
  obtain ⟨aK17, aV17, hZ17, hE17⟩ := z_one (A := Aq s.heap.size) (by decide) (fun c hc => hs c (zc_17 c hc)) hA
  obtain ⟨aK18, aV18, hZ18, hE18⟩ := z_one (A := Aq s.heap.size) (by decide) (fun c hc => hs c (zc_18 c hc)) hA
  obtain ⟨aK19, aV19, hZ19, hE19⟩ := z_one (A := Aq s.heap.size) (by decide) (fun c hc => hs c (zc_19 c hc)) hA
  obtain ⟨aK20, aV20, hZ20, hE20⟩ := z_one (A := Aq s.heap.size) (by decide) (fun c hc => hs c (zc_20 c hc)) hA
  obtain ⟨aK21, aV21, hZ21, hE21⟩ := z_one (A := Aq s.heap.size) (by decide) (fun c hc => hs c (zc_21 c hc)) hA
  obtain ⟨aK22, aV22, hZ22, hE22⟩ := z_one (A := Aq s.heap.size) (by decide) (fun c hc => hs c (zc_22 c hc)) hA
  obtain ⟨aK23, aV23, hZ23, hE23⟩ := z_one (A := Aq s.heap.size) (by decide) (fun c hc => hs c (zc_23 c hc)) hA
  obtain ⟨fK, fV, hall, hK⟩ : ∃ fK fV : Nat → Nat, (∀ k, k < 24 → (va_O "java/lang/String" (fK k) (Aq s.heap.size) s s.heap ∧ va_OF "java/lang/String" "coder" "B" (.int 0) (fK k) (Aq s.heap.size) s s.heap ∧ va_OF "java/lang/String" "value" "[B" (.ref (fV k)) (fK k) (Aq s.heap.size) s s.heap ∧ va_T .byte (fV k) (sL.getD k 0) (fun j => .int ((sB.getD k []).getD j 0)) (Aq s.heap.size) s s.heap)) ∧ (fK 0 = aK0 ∧ fK 1 = aK1 ∧ fK 2 = aK2 ∧ fK 3 = aK3 ∧ fK 4 = aK4 ∧ fK 5 = aK5 ∧ fK 6 = aK6 ∧ fK 7 = aK7 ∧ fK 8 = aK8 ∧ fK 9 = aK9 ∧ fK 10 = aK10 ∧ fK 11 = aK11 ∧ fK 12 = aK12 ∧ fK 13 = aK13 ∧ fK 14 = aK14 ∧ fK 15 = aK15 ∧ fK 16 = aK16 ∧ fK 17 = aK17 ∧ fK 18 = aK18 ∧ fK 19 = aK19 ∧ fK 20 = aK20 ∧ fK 21 = aK21 ∧ fK 22 = aK22 ∧ fK 23 = aK23) := by
    refine ⟨fun k => if k = 0 then aK0 else if k = 1 then aK1 else if k = 2 then aK2 else if k = 3 then aK3 else if k = 4 then aK4 else if k = 5 then aK5 else if k = 6 then aK6 else if k = 7 then aK7 else if k = 8 then aK8 else if k = 9 then aK9 else if k = 10 then aK10 else if k = 11 then aK11 else if k = 12 then aK12 else if k = 13 then aK13 else if k = 14 then aK14 else if k = 15 then aK15 else if k = 16 then aK16 else if k = 17 then aK17 else if k = 18 then aK18 else if k = 19 then aK19 else if k = 20 then aK20 else if k = 21 then aK21 else if k = 22 then aK22 else aK23, fun k => if k = 0 then aV0 else if k = 1 then aV1 else if k = 2 then aV2 else if k = 3 then aV3 else if k = 4 then aV4 else if k = 5 then aV5 else if k = 6 then aV6 else if k = 7 then aV7 else if k = 8 then aV8 else if k = 9 then aV9 else if k = 10 then aV10 else if k = 11 then aV11 else if k = 12 then aV12 else if k = 13 then aV13 else if k = 14 then aV14 else if k = 15 then aV15 else if k = 16 then aV16 else if k = 17 then aV17 else if k = 18 then aV18 else if k = 19 then aV19 else if k = 20 then aV20 else if k = 21 then aV21 else if k = 22 then aV22 else aV23, fun k hk => ?_, rfl, rfl, rfl, rfl, rfl, rfl, rfl, rfl, rfl, rfl, rfl, rfl, rfl, rfl, rfl, rfl, rfl, rfl, rfl, rfl, rfl, rfl, rfl, rfl⟩
    match k, hk with
    | 0, _ => exact hZ0
    | 1, _ => exact hZ1
    | 2, _ => exact hZ2
    | 3, _ => exact hZ3
    | 4, _ => exact hZ4
    | 5, _ => exact hZ5
    | 6, _ => exact hZ6
    | 7, _ => exact hZ7
    | 8, _ => exact hZ8
    | 9, _ => exact hZ9
    | 10, _ => exact hZ10
    | 11, _ => exact hZ11
    | 12, _ => exact hZ12
    | 13, _ => exact hZ13
    | 14, _ => exact hZ14
    | 15, _ => exact hZ15
    | 16, _ => exact hZ16
    | 17, _ => exact hZ17
    | 18, _ => exact hZ18
    | 19, _ => exact hZ19
    | 20, _ => exact hZ20
    | 21, _ => exact hZ21
    | 22, _ => exact hZ22
    | 23, _ => exact hZ23
    | k + 24, h => exact absurd h (by omega)
  obtain ⟨hK0, hK1, hK2, hK3, hK4, hK5, hK6, hK7, hK8, hK9, hK10, hK11, hK12, hK13, hK14, hK15, hK16, hK17, hK18, hK19, hK20, hK21, hK22, hK23⟩ := hK
  refine ⟨(fK, fV), ⟨hall, fun i j hi hj e => ?_⟩, ?_, va_Zof (hts _ zl_COMPACT_STRINGS) (hts _ (gt_tbl (tb_at 15 (by decide +kernel) (by decide +kernel)))) (va_eqi (hs _ z_cs)) hA, va_Zqof (hts _ zl_SIOOBE_FORMATTER) (hts _ (gt_tbl (tb_at 17 (by decide +kernel) (by decide +kernel)))) (hs _ z_sf) hA⟩
  · rcases Nat.decEq i j with hne | he
    · exfalso
      have h1 := (hall i hi).2.2
      have h2 := (hall j hj).2.2
      have e : fK i = fK j := e
      rw [e] at h1
      obtain ⟨g1, g2⟩ := z_apart h1.1 h2.1 h1.2 h2.2 (sL_lt i hi) (sL_lt j hj)
      refine sB_ne i hi j hj hne ⟨g1, ?_⟩
      rw [List.all_eq_true]
      intro k hk
      rw [g2 k (List.mem_range.mp hk)]
      exact beq_self_eq_true _
    · exact he
  · intro q hq
    simp only [sT, List.mem_cons, List.not_mem_nil, or_false] at hq
    rcases hq with rfl | rfl | rfl | rfl | rfl | rfl | rfl | rfl | rfl | rfl | rfl | rfl | rfl | rfl | rfl | rfl | rfl | rfl | rfl | rfl | rfl | rfl | rfl | rfl | rfl | rfl | rfl | rfl | rfl
    · exact (show vk_R _ _ _ (fK 0) _ by rw [hK0]; exact vk_R.of (hts _ zr_X6_59) hE0)
    · exact (show vk_R _ _ _ (fK 1) _ by rw [hK1]; exact vk_R.of (hts _ zr_X8_34) hE1)
    · exact (show vk_R _ _ _ (fK 2) _ by rw [hK2]; exact vk_R.of (hts _ zr_X8_119) hE2)
    · exact (show vk_R _ _ _ (fK 3) _ by rw [hK3]; exact vk_R.of (hts _ zr_X8_64) hE3)
    · exact (show vk_R _ _ _ (fK 4) _ by rw [hK4]; exact vk_R.of (hts _ zr_X8_94) hE4)
    · exact (show vk_R _ _ _ (fK 5) _ by rw [hK5]; exact vk_R.of (hts _ zr_X8_86) hE5)
    · exact (show vk_R _ _ _ (fK 6) _ by rw [hK6]; exact vk_R.of (hts _ zr_X8_88) hE6)
    · exact (show vk_R _ _ _ (fK 7) _ by rw [hK7]; exact vk_R.of (hts _ zr_X12_310) hE7)
    · exact (show vk_R _ _ _ (fK 8) _ by rw [hK8]; exact vk_R.of (hts _ zr_X12_312) hE8)
    · exact (show vk_R _ _ _ (fK 9) _ by rw [hK9]; exact vk_R.of (hts _ zr_X12_314) hE9)
    · exact (show vk_R _ _ _ (fK 10) _ by rw [hK10]; exact vk_R.of (hts _ zr_X12_316) hE10)
    · exact (show vk_R _ _ _ (fK 11) _ by rw [hK11]; exact vk_R.of (hts _ zr_X12_318) hE11)
    · exact (show vk_R _ _ _ (fK 1) _ by rw [hK1]; exact vk_R.of (hts _ zr_X12_362) (z_eq' (hs _ ze_0) hE1))
    · exact (show vk_R _ _ _ (fK 12) _ by rw [hK12]; exact vk_R.of (hts _ zr_X12_191) hE12)
    · exact (show vk_R _ _ _ (fK 13) _ by rw [hK13]; exact vk_R.of (hts _ zr_X12_193) hE13)
    · exact (show vk_R _ _ _ (fK 14) _ by rw [hK14]; exact vk_R.of (hts _ zr_X12_195) hE14)
    · exact (show vk_R _ _ _ (fK 15) _ by rw [hK15]; exact vk_R.of (hts _ zr_X12_197) hE15)
    · exact (show vk_R _ _ _ (fK 16) _ by rw [hK16]; exact vk_R.of (hts _ zr_X12_198) hE16)
    · exact (show vk_R _ _ _ (fK 17) _ by rw [hK17]; exact vk_R.of (hts _ zr_X12_199) hE17)
    · exact (show vk_R _ _ _ (fK 18) _ by rw [hK18]; exact vk_R.of (hts _ zr_X12_201) hE18)
    · exact (show vk_R _ _ _ (fK 19) _ by rw [hK19]; exact vk_R.of (hts _ zr_X12_203) hE19)
    · exact (show vk_R _ _ _ (fK 20) _ by rw [hK20]; exact vk_R.of (hts _ zr_X12_205) hE20)
    · exact (show vk_R _ _ _ (fK 21) _ by rw [hK21]; exact vk_R.of (hts _ zr_X12_207) hE21)
    · exact (show vk_R _ _ _ (fK 22) _ by rw [hK22]; exact vk_R.of (hts _ zr_X12_209) hE22)
    · exact (show vk_R _ _ _ (fK 23) _ by rw [hK23]; exact vk_R.of (hts _ zr_X12_210) hE23)
    · exact (show vk_R _ _ _ (fK 3) _ by rw [hK3]; exact vk_R.of (hts _ zr_X12_364) (z_eq' (hs _ ze_1) hE3))
    · exact (show vk_R _ _ _ (fK 4) _ by rw [hK4]; exact vk_R.of (hts _ zr_X12_292) (z_eq' (hs _ ze_2) hE4))
    · exact (show vk_R _ _ _ (fK 5) _ by rw [hK5]; exact vk_R.of (hts _ zr_X12_306) (z_eq' (hs _ ze_3) hE5))
    · exact (show vk_R _ _ _ (fK 6) _ by rw [hK6]; exact vk_R.of (hts _ zr_X12_308) (z_eq' (hs _ ze_4) hE6))
