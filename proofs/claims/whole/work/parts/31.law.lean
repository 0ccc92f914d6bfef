/-! THE CLAIM OUT OF ONE WALK OF THE LAW'S BODY. Your part is whole_start (and what it stands on); all else here is the same for every law, but numbers. -/
def R_law : String := "PartyRaftLaw"
def lw_P (b : Addr) (xs : List Int32) (args : Array Value) (s : State) : Prop := args = #[.ref b] ∧ s.IntsAt b xs ∧ xs.length ≤ 3072 ∧ (Jvm.Cond.and given_1 narrow_1).before args s = true
def lw_Q (_ : Array Value) (s : State) (o : Outcome) (t : State) : Prop := o = .returned (some (.int 1)) ∧ Framed s o t [] 600000 7302250
def lw_Z (below : List Frame) (a : Array Value) (s : State) : State → Prop := fun t => ∃ o, t.status = .running ∧ Ended t below o ∧ lw_Q a s o t
/-- the law's own end, with 1 on the stack, nothing written that was there before, its room as the claim has it -/
theorem lw_ret {p : Program} {l : Launch} {e : Env} {s : State} {m : MethodId} {below : List Frame} {meth : Method} {c : Code} {b : Nat} (hx : p.tables.exec = Jvm.exec) (hb : c.code = code) (hr : meth.sig.returnType = ret) (hlocks : meth.locks = false) {pc : Nat} {H : Heap} {ls : Array Slot} (hdg : decode code pc = .ok (.ireturn, 1)) : W p l e room_1 s m #[Value.ref b] below meth c H [] 600000 7302250 (lw_Z below #[Value.ref b] s) (F0 m pc ls [.int 1]) := by
  intro T hT X
  obtain ⟨fs, hret, hrun, hended, hW, hframe⟩ := X.leave (v := some (.int 1)) (hlocks := hlocks) (fun h => by rw [hr] at h; cases h)
  have hmeth' : T.vm.method? m = some meth := X.method'
  refine ⟨T.setFrames fs, ?_, .returned (some (.int 1)), hrun, hended, rfl, ⟨_, rfl⟩, hW, hframe⟩
  jvm_step X.here [X.here.top, hx, hb, hdg, hmeth', hr, ret, narrow_b1]
  (try refine ⟨rfl, ?_⟩); (try refine ⟨rfl, ?_⟩)
  first | (intro acts; rw [hret _ acts rfl rfl rfl]) | rw [hret _ _ rfl rfl rfl]
  exact Steps.refl _
/-- what holds at the law's entry: the machine, the code, the tables' words (any of lw_tbl by 'hts w (by decide +kernel)'), the script of L ints xs at the cell b, what the Statement gives of the start (any of its parts by flat_of_before) -/
def lw_At (p : Program) (s : State) (m : MethodId) (meth : Method) (c : Code) (b L : Nat) (xs : Nat → Int32) : Prop :=
  p.tables.exec = Jvm.exec ∧ c.code = code ∧ meth.sig.returnType = ret ∧ c.maxLocals = 4 ∧ s.vm.findClass R_law = some m.cls ∧ (∀ w ∈ lw_tbl, w.before #[Value.ref b] s = true) ∧ va_X b L xs s s.heap ∧ b < s.heap.size ∧ meth.locks = false ∧ (Jvm.Cond.and given_1 narrow_1).before #[Value.ref b] s = true
theorem ix0 {j L : Nat} (hj : j + 6 ≤ L) (hL : L ≤ 3072) : vp_in (nI j) L := vp_in_nI (by omega) (by omega)
theorem ix1 {j L : Nat} (hj : j + 6 ≤ L) (hL : L ≤ 3072) : vp_in (nI j + 1) L := by
  rw [show (1 : Int32) = nI 1 from rfl, nI_add]
  exact vp_in_nI (by omega) (by omega)
theorem ix2 {j L : Nat} (hj : j + 6 ≤ L) (hL : L ≤ 3072) : vp_in (nI j + 2) L := by
  rw [show (2 : Int32) = nI 2 from rfl, nI_add]
  exact vp_in_nI (by omega) (by omega)
theorem ix3 {j L : Nat} (hj : j + 6 ≤ L) (hL : L ≤ 3072) : vp_in (nI j + 3) L := by
  rw [show (3 : Int32) = nI 3 from rfl, nI_add]
  exact vp_in_nI (by omega) (by omega)
theorem ix4 {j L : Nat} (hj : j + 6 ≤ L) (hL : L ≤ 3072) : vp_in (nI j + 4) L := by
  rw [show (4 : Int32) = nI 4 from rfl, nI_add]
  exact vp_in_nI (by omega) (by omega)
theorem ix5 {j L : Nat} (hj : j + 6 ≤ L) (hL : L ≤ 3072) : vp_in (nI j + 5) L := by
  rw [show (5 : Int32) = nI 5 from rfl, nI_add]
  exact vp_in_nI (by omega) (by omega)
theorem ixg {j L : Nat} (h : L < j + 6) (hjL : j ≤ L) (hL : L ≤ 3072) : Int32.ofNat L - 6 < nI j := by
  rw [Int32.lt_iff_toInt_lt, nI_toInt (by omega)]
  have h1 : (Int32.ofNat L - 6).toInt = (L : Int) - 6 := pk_sub_toInt (a := L) (b := 6) (by omega) (by decide)
  rw [h1]
  omega
set_option maxRecDepth 100000 in
set_option maxHeartbeats 4000000 in
theorem lc_feed {p : Program} {l : Launch} {e : Env} {s : State} {m : MethodId} {below : List Frame} {meth : Method} {c : Code} {D : va_G} {dA : Nat → ClassId} {zz : (Nat → Nat) × (Nat → Nat)} {bs b L : Nat} {xs : Nat → Int32} {Q : State → Prop} {CE SL j : Nat} (X : Cx p m meth c cL_law 4 s #[.ref b] RL D dA zz bs) (hX : va_X b L xs s s.heap) (hbl : b < s.heap.size) (hbA : ¬ Aq bs b) (hj : j + 6 ≤ L) (hL : L ≤ 3072) (hce : CE ≤ room_1.cells ∧ SL ≤ room_1.slots) (I : Mm → Prop) (hs : sm_feed I) {mm : Mm} (hI : I mm) {H : Heap} {locs : List Loc} {ls : Array Slot} (hP : Wd D dA bs LY mm H) (hS : va_S (Aq bs) s.heap H locs) (hl : lv_has ls 4 [(0, .ref b), (1, .ref (bs + 0)), (2, .ref (bs + 1088)), (3, .int (nI j))])
    (kk : ∀ (m' : Mm) (H : Heap) (locs : List Loc), I m' → Wd D dA bs LY m' H → va_S (Aq bs) s.heap H locs → W p l e room_1 s m #[.ref b] below meth c H locs CE SL Q (F0 m 1092 ls [])) : W p l e room_1 s m #[.ref b] below meth c H locs CE SL Q (F0 m 176 ls []) := by
  obtain ⟨r, m1, m2, h1, h2, hI⟩ := hs mm (xs (nI j + 1).toNatClampNeg) (xs (nI j + 2).toNatClampNeg) (xs (nI j + 3).toNatClampNeg) (xs (nI j + 4).toNatClampNeg) (xs (nI j + 5).toNatClampNeg) hI
  have hx := X.1
  have hb := X.2.1
  refine lv_aload_n hx hb dL_law_176 rfl (lv_at hl 1 rfl) ?_
  refine lv_aload_n hx hb dL_law_177 rfl (lv_at hl 0 rfl) ?_
  refine lv_iload_n hx hb dL_law_178 rfl (lv_at hl 3 rfl) ?_
  refine lv_iconst (v := 1) hx hb dL_law_179 (by decide) ?_
  refine lv_iadd hx hb dL_law_180 ?_
  refine va_sld hx hb hX hbl hbA hS (ix1 hj hL) dL_law_181 ?_
  refine lv_aload_n hx hb dL_law_182 rfl (lv_at hl 0 rfl) ?_
  refine lv_iload_n hx hb dL_law_183 rfl (lv_at hl 3 rfl) ?_
  refine lv_iconst (v := 2) hx hb dL_law_184 (by decide) ?_
  refine lv_iadd hx hb dL_law_185 ?_
  refine va_sld hx hb hX hbl hbA hS (ix2 hj hL) dL_law_186 ?_
  refine lv_aload_n hx hb dL_law_187 rfl (lv_at hl 0 rfl) ?_
  refine lv_iload_n hx hb dL_law_188 rfl (lv_at hl 3 rfl) ?_
  refine lv_iconst (v := 3) hx hb dL_law_189 (by decide) ?_
  refine lv_iadd hx hb dL_law_190 ?_
  refine va_sld hx hb hX hbl hbA hS (ix3 hj hL) dL_law_191 ?_
  refine lv_aload_n hx hb dL_law_192 rfl (lv_at hl 0 rfl) ?_
  refine lv_iload_n hx hb dL_law_193 rfl (lv_at hl 3 rfl) ?_
  refine lv_iconst (v := 4) hx hb dL_law_194 (by decide) ?_
  refine lv_iadd hx hb dL_law_195 ?_
  refine va_sld hx hb hX hbl hbA hS (ix4 hj hL) dL_law_196 ?_
  refine lv_aload_n hx hb dL_law_197 rfl (lv_at hl 0 rfl) ?_
  refine lv_iload_n hx hb dL_law_198 rfl (lv_at hl 3 rfl) ?_
  refine lv_iconst (v := 5) hx hb dL_law_199 (by decide) ?_
  refine lv_iadd hx hb dL_law_200 ?_
  refine va_sld hx hb hX hbl hbA hS (ix5 hj hL) dL_law_201 ?_
  refine wd_cv X hP hS L0 ml_L_13 ⟨_, _, rfl⟩ (c_X11_feed l D dA zz bs mm (xs (nI j + 1).toNatClampNeg) (xs (nI j + 2).toNatClampNeg) (xs (nI j + 3).toNatClampNeg) (xs (nI j + 4).toNatClampNeg) (xs (nI j + 5).toNatClampNeg) r m1 h1) rfl ⟨Nat.le_of_ble_eq_true rfl, Nat.le_of_ble_eq_true rfl⟩ hl.1 rfl (rest := []) (Nat.le_of_ble_eq_true rfl) hce dL_law_202 (fun H locs hP hS => ?_)
  refine W.eq (g2 := F0 m 205 ls [.int r]) rfl ?_
  refine lv_aload_n hx hb dL_law_205 rfl (lv_at hl 2 rfl) ?_
  refine lv_aload_n hx hb dL_law_206 rfl (lv_at hl 0 rfl) ?_
  refine lv_iload_n hx hb dL_law_207 rfl (lv_at hl 3 rfl) ?_
  refine lv_iconst (v := 1) hx hb dL_law_208 (by decide) ?_
  refine lv_iadd hx hb dL_law_209 ?_
  refine va_sld hx hb hX hbl hbA hS (ix1 hj hL) dL_law_210 ?_
  refine lv_aload_n hx hb dL_law_211 rfl (lv_at hl 0 rfl) ?_
  refine lv_iload_n hx hb dL_law_212 rfl (lv_at hl 3 rfl) ?_
  refine lv_iconst (v := 2) hx hb dL_law_213 (by decide) ?_
  refine lv_iadd hx hb dL_law_214 ?_
  refine va_sld hx hb hX hbl hbA hS (ix2 hj hL) dL_law_215 ?_
  refine lv_aload_n hx hb dL_law_216 rfl (lv_at hl 0 rfl) ?_
  refine lv_iload_n hx hb dL_law_217 rfl (lv_at hl 3 rfl) ?_
  refine lv_iconst (v := 3) hx hb dL_law_218 (by decide) ?_
  refine lv_iadd hx hb dL_law_219 ?_
  refine va_sld hx hb hX hbl hbA hS (ix3 hj hL) dL_law_220 ?_
  refine lv_aload_n hx hb dL_law_221 rfl (lv_at hl 0 rfl) ?_
  refine lv_iload_n hx hb dL_law_222 rfl (lv_at hl 3 rfl) ?_
  refine lv_iconst (v := 4) hx hb dL_law_223 (by decide) ?_
  refine lv_iadd hx hb dL_law_224 ?_
  refine va_sld hx hb hX hbl hbA hS (ix4 hj hL) dL_law_225 ?_
  refine lv_aload_n hx hb dL_law_226 rfl (lv_at hl 0 rfl) ?_
  refine lv_iload_n hx hb dL_law_227 rfl (lv_at hl 3 rfl) ?_
  refine lv_iconst (v := 5) hx hb dL_law_228 (by decide) ?_
  refine lv_iadd hx hb dL_law_229 ?_
  refine va_sld hx hb hX hbl hbA hS (ix5 hj hL) dL_law_230 ?_
  refine wd_cv X hP hS L1088 ml_L_17 ⟨_, _, rfl⟩ (c_X12_feed l D dA zz bs m1 (xs (nI j + 1).toNatClampNeg) (xs (nI j + 2).toNatClampNeg) (xs (nI j + 3).toNatClampNeg) (xs (nI j + 4).toNatClampNeg) (xs (nI j + 5).toNatClampNeg) r m2 h2) rfl ⟨Nat.le_of_ble_eq_true rfl, Nat.le_of_ble_eq_true rfl⟩ hl.1 rfl (rest := [.int r]) (Nat.le_of_ble_eq_true rfl) hce dL_law_231 (fun H locs hP hS => ?_)
  refine W.eq (g2 := F0 m 234 ls [.int r, .int r]) rfl ?_
  refine lv_icmp_eq (tgt := 1092) hx hb dL_law_234 (by decide) (fun _ => ?_) (fun c_ => absurd rfl c_)
  exact kk m2 H locs hI hP hS
set_option maxRecDepth 100000 in
set_option maxHeartbeats 4000000 in
theorem lc_end {p : Program} {l : Launch} {e : Env} {s : State} {m : MethodId} {below : List Frame} {meth : Method} {c : Code} {D : va_G} {dA : Nat → ClassId} {zz : (Nat → Nat) × (Nat → Nat)} {bs b L : Nat} {xs : Nat → Int32} {Q : State → Prop} {CE SL j : Nat} (X : Cx p m meth c cL_law 4 s #[.ref b] RL D dA zz bs) (hX : va_X b L xs s s.heap) (hbl : b < s.heap.size) (hbA : ¬ Aq bs b) (hj : j + 6 ≤ L) (hL : L ≤ 3072) (hce : CE ≤ room_1.cells ∧ SL ≤ room_1.slots) (I : Mm → Prop) (hs : sm_end I) {mm : Mm} (hI : I mm) {H : Heap} {locs : List Loc} {ls : Array Slot} (hP : Wd D dA bs LY mm H) (hS : va_S (Aq bs) s.heap H locs) (hl : lv_has ls 4 [(0, .ref b), (1, .ref (bs + 0)), (2, .ref (bs + 1088)), (3, .int (nI j))])
    (kk : ∀ (m' : Mm) (H : Heap) (locs : List Loc), I m' → Wd D dA bs LY m' H → va_S (Aq bs) s.heap H locs → W p l e room_1 s m #[.ref b] below meth c H locs CE SL Q (F0 m 1092 ls [])) : W p l e room_1 s m #[.ref b] below meth c H locs CE SL Q (F0 m 239 ls []) := by
  obtain ⟨r, m1, m2, h1, h2, hI⟩ := hs mm (xs (nI j + 1).toNatClampNeg) hI
  have hx := X.1
  have hb := X.2.1
  refine lv_aload_n hx hb dL_law_239 rfl (lv_at hl 1 rfl) ?_
  refine lv_aload_n hx hb dL_law_240 rfl (lv_at hl 0 rfl) ?_
  refine lv_iload_n hx hb dL_law_241 rfl (lv_at hl 3 rfl) ?_
  refine lv_iconst (v := 1) hx hb dL_law_242 (by decide) ?_
  refine lv_iadd hx hb dL_law_243 ?_
  refine va_sld hx hb hX hbl hbA hS (ix1 hj hL) dL_law_244 ?_
  refine wd_cv X hP hS L0 ml_L_18 ⟨_, _, rfl⟩ (c_X11_end l D dA zz bs mm (xs (nI j + 1).toNatClampNeg) r m1 h1) rfl ⟨Nat.le_of_ble_eq_true rfl, Nat.le_of_ble_eq_true rfl⟩ hl.1 rfl (rest := []) (Nat.le_of_ble_eq_true rfl) hce dL_law_245 (fun H locs hP hS => ?_)
  refine W.eq (g2 := F0 m 248 ls [.int r]) rfl ?_
  refine lv_aload_n hx hb dL_law_248 rfl (lv_at hl 2 rfl) ?_
  refine lv_aload_n hx hb dL_law_249 rfl (lv_at hl 0 rfl) ?_
  refine lv_iload_n hx hb dL_law_250 rfl (lv_at hl 3 rfl) ?_
  refine lv_iconst (v := 1) hx hb dL_law_251 (by decide) ?_
  refine lv_iadd hx hb dL_law_252 ?_
  refine va_sld hx hb hX hbl hbA hS (ix1 hj hL) dL_law_253 ?_
  refine wd_cv X hP hS L1088 ml_L_22 ⟨_, _, rfl⟩ (c_X12_end l D dA zz bs m1 (xs (nI j + 1).toNatClampNeg) r m2 h2) rfl ⟨Nat.le_of_ble_eq_true rfl, Nat.le_of_ble_eq_true rfl⟩ hl.1 rfl (rest := [.int r]) (Nat.le_of_ble_eq_true rfl) hce dL_law_254 (fun H locs hP hS => ?_)
  refine W.eq (g2 := F0 m 257 ls [.int r, .int r]) rfl ?_
  refine lv_icmp_eq (tgt := 1092) hx hb dL_law_257 (by decide) (fun _ => ?_) (fun c_ => absurd rfl c_)
  exact kk m2 H locs hI hP hS
set_option maxRecDepth 100000 in
set_option maxHeartbeats 4000000 in
theorem lc_river {p : Program} {l : Launch} {e : Env} {s : State} {m : MethodId} {below : List Frame} {meth : Method} {c : Code} {D : va_G} {dA : Nat → ClassId} {zz : (Nat → Nat) × (Nat → Nat)} {bs b L : Nat} {xs : Nat → Int32} {Q : State → Prop} {CE SL j : Nat} (X : Cx p m meth c cL_law 4 s #[.ref b] RL D dA zz bs) (hX : va_X b L xs s s.heap) (hbl : b < s.heap.size) (hbA : ¬ Aq bs b) (hj : j + 6 ≤ L) (hL : L ≤ 3072) (hce : CE ≤ room_1.cells ∧ SL ≤ room_1.slots) (I : Mm → Prop) (hs : sm_river I) {mm : Mm} (hI : I mm) {H : Heap} {locs : List Loc} {ls : Array Slot} (hP : Wd D dA bs LY mm H) (hS : va_S (Aq bs) s.heap H locs) (hl : lv_has ls 4 [(0, .ref b), (1, .ref (bs + 0)), (2, .ref (bs + 1088)), (3, .int (nI j))])
    (kk : ∀ (m' : Mm) (H : Heap) (locs : List Loc), I m' → Wd D dA bs LY m' H → va_S (Aq bs) s.heap H locs → W p l e room_1 s m #[.ref b] below meth c H locs CE SL Q (F0 m 1092 ls [])) : W p l e room_1 s m #[.ref b] below meth c H locs CE SL Q (F0 m 262 ls []) := by
  obtain ⟨r, m1, m2, h1, h2, hI⟩ := hs mm  hI
  have hx := X.1
  have hb := X.2.1
  refine lv_aload_n hx hb dL_law_262 rfl (lv_at hl 1 rfl) ?_
  refine wd_cv X hP hS L0 ml_L_23 ⟨_, _, rfl⟩ (c_X11_river l D dA zz bs mm  r m1 h1) rfl ⟨Nat.le_of_ble_eq_true rfl, Nat.le_of_ble_eq_true rfl⟩ hl.1 rfl (rest := []) (Nat.le_of_ble_eq_true rfl) hce dL_law_263 (fun H locs hP hS => ?_)
  refine W.eq (g2 := F0 m 266 ls [.int r]) rfl ?_
  refine lv_aload_n hx hb dL_law_266 rfl (lv_at hl 2 rfl) ?_
  refine wd_cv X hP hS L1088 ml_L_27 ⟨_, _, rfl⟩ (c_X12_river l D dA zz bs m1  r m2 h2) rfl ⟨Nat.le_of_ble_eq_true rfl, Nat.le_of_ble_eq_true rfl⟩ hl.1 rfl (rest := [.int r]) (Nat.le_of_ble_eq_true rfl) hce dL_law_267 (fun H locs hP hS => ?_)
  refine W.eq (g2 := F0 m 270 ls [.int r, .int r]) rfl ?_
  refine lv_icmp_eq (tgt := 1092) hx hb dL_law_270 (by decide) (fun _ => ?_) (fun c_ => absurd rfl c_)
  exact kk m2 H locs hI hP hS
set_option maxRecDepth 100000 in
set_option maxHeartbeats 4000000 in
theorem lc_rule {p : Program} {l : Launch} {e : Env} {s : State} {m : MethodId} {below : List Frame} {meth : Method} {c : Code} {D : va_G} {dA : Nat → ClassId} {zz : (Nat → Nat) × (Nat → Nat)} {bs b L : Nat} {xs : Nat → Int32} {Q : State → Prop} {CE SL j : Nat} (X : Cx p m meth c cL_law 4 s #[.ref b] RL D dA zz bs) (hX : va_X b L xs s s.heap) (hbl : b < s.heap.size) (hbA : ¬ Aq bs b) (hj : j + 6 ≤ L) (hL : L ≤ 3072) (hce : CE ≤ room_1.cells ∧ SL ≤ room_1.slots) (I : Mm → Prop) (hs : sm_rule I) {mm : Mm} (hI : I mm) {H : Heap} {locs : List Loc} {ls : Array Slot} (hP : Wd D dA bs LY mm H) (hS : va_S (Aq bs) s.heap H locs) (hl : lv_has ls 4 [(0, .ref b), (1, .ref (bs + 0)), (2, .ref (bs + 1088)), (3, .int (nI j))])
    (kk : ∀ (m' : Mm) (H : Heap) (locs : List Loc), I m' → Wd D dA bs LY m' H → va_S (Aq bs) s.heap H locs → W p l e room_1 s m #[.ref b] below meth c H locs CE SL Q (F0 m 1092 ls [])) : W p l e room_1 s m #[.ref b] below meth c H locs CE SL Q (F0 m 275 ls []) := by
  obtain ⟨r, m1, m2, h1, h2, hI⟩ := hs mm  hI
  have hx := X.1
  have hb := X.2.1
  refine lv_aload_n hx hb dL_law_275 rfl (lv_at hl 1 rfl) ?_
  refine wd_cv X hP hS L0 ml_L_28 ⟨_, _, rfl⟩ (c_X11_rule l D dA zz bs mm  r m1 h1) rfl ⟨Nat.le_of_ble_eq_true rfl, Nat.le_of_ble_eq_true rfl⟩ hl.1 rfl (rest := []) (Nat.le_of_ble_eq_true rfl) hce dL_law_276 (fun H locs hP hS => ?_)
  refine W.eq (g2 := F0 m 279 ls [.int r]) rfl ?_
  refine lv_aload_n hx hb dL_law_279 rfl (lv_at hl 2 rfl) ?_
  refine wd_cv X hP hS L1088 ml_L_31 ⟨_, _, rfl⟩ (c_X12_rule l D dA zz bs m1  r m2 h2) rfl ⟨Nat.le_of_ble_eq_true rfl, Nat.le_of_ble_eq_true rfl⟩ hl.1 rfl (rest := [.int r]) (Nat.le_of_ble_eq_true rfl) hce dL_law_280 (fun H locs hP hS => ?_)
  refine W.eq (g2 := F0 m 283 ls [.int r, .int r]) rfl ?_
  refine lv_icmp_eq (tgt := 1092) hx hb dL_law_283 (by decide) (fun _ => ?_) (fun c_ => absurd rfl c_)
  exact kk m2 H locs hI hP hS
set_option maxRecDepth 100000 in
set_option maxHeartbeats 4000000 in
theorem lc_owner {p : Program} {l : Launch} {e : Env} {s : State} {m : MethodId} {below : List Frame} {meth : Method} {c : Code} {D : va_G} {dA : Nat → ClassId} {zz : (Nat → Nat) × (Nat → Nat)} {bs b L : Nat} {xs : Nat → Int32} {Q : State → Prop} {CE SL j : Nat} (X : Cx p m meth c cL_law 4 s #[.ref b] RL D dA zz bs) (hX : va_X b L xs s s.heap) (hbl : b < s.heap.size) (hbA : ¬ Aq bs b) (hj : j + 6 ≤ L) (hL : L ≤ 3072) (hce : CE ≤ room_1.cells ∧ SL ≤ room_1.slots) (I : Mm → Prop) (hs : sm_owner I) {mm : Mm} (hI : I mm) {H : Heap} {locs : List Loc} {ls : Array Slot} (hP : Wd D dA bs LY mm H) (hS : va_S (Aq bs) s.heap H locs) (hl : lv_has ls 4 [(0, .ref b), (1, .ref (bs + 0)), (2, .ref (bs + 1088)), (3, .int (nI j))])
    (kk : ∀ (m' : Mm) (H : Heap) (locs : List Loc), I m' → Wd D dA bs LY m' H → va_S (Aq bs) s.heap H locs → W p l e room_1 s m #[.ref b] below meth c H locs CE SL Q (F0 m 1092 ls [])) : W p l e room_1 s m #[.ref b] below meth c H locs CE SL Q (F0 m 288 ls []) := by
  obtain ⟨r, m1, h1, h2, hI⟩ := hs mm (xs (nI j + 1).toNatClampNeg) (xs (nI j + 2).toNatClampNeg) hI
  have hx := X.1
  have hb := X.2.1
  refine lv_aload_n hx hb dL_law_288 rfl (lv_at hl 1 rfl) ?_
  refine lv_aload_n hx hb dL_law_289 rfl (lv_at hl 0 rfl) ?_
  refine lv_iload_n hx hb dL_law_290 rfl (lv_at hl 3 rfl) ?_
  refine lv_iconst (v := 1) hx hb dL_law_291 (by decide) ?_
  refine lv_iadd hx hb dL_law_292 ?_
  refine va_sld hx hb hX hbl hbA hS (ix1 hj hL) dL_law_293 ?_
  refine lv_aload_n hx hb dL_law_294 rfl (lv_at hl 0 rfl) ?_
  refine lv_iload_n hx hb dL_law_295 rfl (lv_at hl 3 rfl) ?_
  refine lv_iconst (v := 2) hx hb dL_law_296 (by decide) ?_
  refine lv_iadd hx hb dL_law_297 ?_
  refine va_sld hx hb hX hbl hbA hS (ix2 hj hL) dL_law_298 ?_
  refine wd_cv X hP hS L0 ml_L_32 ⟨_, _, rfl⟩ (c_X11_owner l D dA zz bs mm (xs (nI j + 1).toNatClampNeg) (xs (nI j + 2).toNatClampNeg) r m1 h1) rfl ⟨Nat.le_of_ble_eq_true rfl, Nat.le_of_ble_eq_true rfl⟩ hl.1 rfl (rest := []) (Nat.le_of_ble_eq_true rfl) hce dL_law_299 (fun H locs hP hS => ?_)
  refine W.eq (g2 := F0 m 302 ls [.int r]) rfl ?_
  refine lv_aload_n hx hb dL_law_302 rfl (lv_at hl 2 rfl) ?_
  refine lv_aload_n hx hb dL_law_303 rfl (lv_at hl 0 rfl) ?_
  refine lv_iload_n hx hb dL_law_304 rfl (lv_at hl 3 rfl) ?_
  refine lv_iconst (v := 1) hx hb dL_law_305 (by decide) ?_
  refine lv_iadd hx hb dL_law_306 ?_
  refine va_sld hx hb hX hbl hbA hS (ix1 hj hL) dL_law_307 ?_
  refine lv_aload_n hx hb dL_law_308 rfl (lv_at hl 0 rfl) ?_
  refine lv_iload_n hx hb dL_law_309 rfl (lv_at hl 3 rfl) ?_
  refine lv_iconst (v := 2) hx hb dL_law_310 (by decide) ?_
  refine lv_iadd hx hb dL_law_311 ?_
  refine va_sld hx hb hX hbl hbA hS (ix2 hj hL) dL_law_312 ?_
  refine wd_cv X hP hS L1088 ml_L_36 ⟨_, _, rfl⟩ (c_X12_owner l D dA zz bs m1 (xs (nI j + 1).toNatClampNeg) (xs (nI j + 2).toNatClampNeg) r h2) rfl ⟨Nat.le_of_ble_eq_true rfl, Nat.le_of_ble_eq_true rfl⟩ hl.1 rfl (rest := [.int r]) (Nat.le_of_ble_eq_true rfl) hce dL_law_313 (fun H locs hP hS => ?_)
  refine W.eq (g2 := F0 m 316 ls [.int r, .int r]) rfl ?_
  refine lv_icmp_eq (tgt := 1092) hx hb dL_law_316 (by decide) (fun _ => ?_) (fun c_ => absurd rfl c_)
  exact kk m1 H locs hI hP hS
set_option maxRecDepth 100000 in
set_option maxHeartbeats 4000000 in
theorem lc_thing {p : Program} {l : Launch} {e : Env} {s : State} {m : MethodId} {below : List Frame} {meth : Method} {c : Code} {D : va_G} {dA : Nat → ClassId} {zz : (Nat → Nat) × (Nat → Nat)} {bs b L : Nat} {xs : Nat → Int32} {Q : State → Prop} {CE SL j : Nat} (X : Cx p m meth c cL_law 4 s #[.ref b] RL D dA zz bs) (hX : va_X b L xs s s.heap) (hbl : b < s.heap.size) (hbA : ¬ Aq bs b) (hj : j + 6 ≤ L) (hL : L ≤ 3072) (hce : CE ≤ room_1.cells ∧ SL ≤ room_1.slots) (I : Mm → Prop) (hs : sm_thing I) {mm : Mm} (hI : I mm) {H : Heap} {locs : List Loc} {ls : Array Slot} (hP : Wd D dA bs LY mm H) (hS : va_S (Aq bs) s.heap H locs) (hl : lv_has ls 4 [(0, .ref b), (1, .ref (bs + 0)), (2, .ref (bs + 1088)), (3, .int (nI j))])
    (kk : ∀ (m' : Mm) (H : Heap) (locs : List Loc), I m' → Wd D dA bs LY m' H → va_S (Aq bs) s.heap H locs → W p l e room_1 s m #[.ref b] below meth c H locs CE SL Q (F0 m 1092 ls [])) : W p l e room_1 s m #[.ref b] below meth c H locs CE SL Q (F0 m 321 ls []) := by
  obtain ⟨r, m1, h1, h2, hI⟩ := hs mm (xs (nI j + 1).toNatClampNeg) (xs (nI j + 2).toNatClampNeg) hI
  have hx := X.1
  have hb := X.2.1
  refine lv_aload_n hx hb dL_law_321 rfl (lv_at hl 1 rfl) ?_
  refine lv_aload_n hx hb dL_law_322 rfl (lv_at hl 0 rfl) ?_
  refine lv_iload_n hx hb dL_law_323 rfl (lv_at hl 3 rfl) ?_
  refine lv_iconst (v := 1) hx hb dL_law_324 (by decide) ?_
  refine lv_iadd hx hb dL_law_325 ?_
  refine va_sld hx hb hX hbl hbA hS (ix1 hj hL) dL_law_326 ?_
  refine lv_aload_n hx hb dL_law_327 rfl (lv_at hl 0 rfl) ?_
  refine lv_iload_n hx hb dL_law_328 rfl (lv_at hl 3 rfl) ?_
  refine lv_iconst (v := 2) hx hb dL_law_329 (by decide) ?_
  refine lv_iadd hx hb dL_law_330 ?_
  refine va_sld hx hb hX hbl hbA hS (ix2 hj hL) dL_law_331 ?_
  refine wd_cv X hP hS L0 ml_L_37 ⟨_, _, rfl⟩ (c_X11_thing l D dA zz bs mm (xs (nI j + 1).toNatClampNeg) (xs (nI j + 2).toNatClampNeg) r m1 h1) rfl ⟨Nat.le_of_ble_eq_true rfl, Nat.le_of_ble_eq_true rfl⟩ hl.1 rfl (rest := []) (Nat.le_of_ble_eq_true rfl) hce dL_law_332 (fun H locs hP hS => ?_)
  refine W.eq (g2 := F0 m 335 ls [.int r]) rfl ?_
  refine lv_aload_n hx hb dL_law_335 rfl (lv_at hl 2 rfl) ?_
  refine lv_aload_n hx hb dL_law_336 rfl (lv_at hl 0 rfl) ?_
  refine lv_iload_n hx hb dL_law_337 rfl (lv_at hl 3 rfl) ?_
  refine lv_iconst (v := 1) hx hb dL_law_338 (by decide) ?_
  refine lv_iadd hx hb dL_law_339 ?_
  refine va_sld hx hb hX hbl hbA hS (ix1 hj hL) dL_law_340 ?_
  refine lv_aload_n hx hb dL_law_341 rfl (lv_at hl 0 rfl) ?_
  refine lv_iload_n hx hb dL_law_342 rfl (lv_at hl 3 rfl) ?_
  refine lv_iconst (v := 2) hx hb dL_law_343 (by decide) ?_
  refine lv_iadd hx hb dL_law_344 ?_
  refine va_sld hx hb hX hbl hbA hS (ix2 hj hL) dL_law_345 ?_
  refine wd_cv X hP hS L1088 ml_L_40 ⟨_, _, rfl⟩ (c_X12_thing l D dA zz bs m1 (xs (nI j + 1).toNatClampNeg) (xs (nI j + 2).toNatClampNeg) r h2) rfl ⟨Nat.le_of_ble_eq_true rfl, Nat.le_of_ble_eq_true rfl⟩ hl.1 rfl (rest := [.int r]) (Nat.le_of_ble_eq_true rfl) hce dL_law_346 (fun H locs hP hS => ?_)
  refine W.eq (g2 := F0 m 349 ls [.int r, .int r]) rfl ?_
  refine lv_icmp_eq (tgt := 1092) hx hb dL_law_349 (by decide) (fun _ => ?_) (fun c_ => absurd rfl c_)
  exact kk m1 H locs hI hP hS
set_option maxRecDepth 100000 in
set_option maxHeartbeats 4000000 in
theorem lc_rope {p : Program} {l : Launch} {e : Env} {s : State} {m : MethodId} {below : List Frame} {meth : Method} {c : Code} {D : va_G} {dA : Nat → ClassId} {zz : (Nat → Nat) × (Nat → Nat)} {bs b L : Nat} {xs : Nat → Int32} {Q : State → Prop} {CE SL j : Nat} (X : Cx p m meth c cL_law 4 s #[.ref b] RL D dA zz bs) (hX : va_X b L xs s s.heap) (hbl : b < s.heap.size) (hbA : ¬ Aq bs b) (hj : j + 6 ≤ L) (hL : L ≤ 3072) (hce : CE ≤ room_1.cells ∧ SL ≤ room_1.slots) (I : Mm → Prop) (hs : sm_rope I) {mm : Mm} (hI : I mm) {H : Heap} {locs : List Loc} {ls : Array Slot} (hP : Wd D dA bs LY mm H) (hS : va_S (Aq bs) s.heap H locs) (hl : lv_has ls 4 [(0, .ref b), (1, .ref (bs + 0)), (2, .ref (bs + 1088)), (3, .int (nI j))])
    (kk : ∀ (m' : Mm) (H : Heap) (locs : List Loc), I m' → Wd D dA bs LY m' H → va_S (Aq bs) s.heap H locs → W p l e room_1 s m #[.ref b] below meth c H locs CE SL Q (F0 m 1092 ls [])) : W p l e room_1 s m #[.ref b] below meth c H locs CE SL Q (F0 m 354 ls []) := by
  obtain ⟨r, h1, h2, hI⟩ := hs mm (xs (nI j + 1).toNatClampNeg) (xs (nI j + 2).toNatClampNeg) hI
  have hx := X.1
  have hb := X.2.1
  refine lv_aload_n hx hb dL_law_354 rfl (lv_at hl 1 rfl) ?_
  refine lv_aload_n hx hb dL_law_355 rfl (lv_at hl 0 rfl) ?_
  refine lv_iload_n hx hb dL_law_356 rfl (lv_at hl 3 rfl) ?_
  refine lv_iconst (v := 1) hx hb dL_law_357 (by decide) ?_
  refine lv_iadd hx hb dL_law_358 ?_
  refine va_sld hx hb hX hbl hbA hS (ix1 hj hL) dL_law_359 ?_
  refine lv_aload_n hx hb dL_law_360 rfl (lv_at hl 0 rfl) ?_
  refine lv_iload_n hx hb dL_law_361 rfl (lv_at hl 3 rfl) ?_
  refine lv_iconst (v := 2) hx hb dL_law_362 (by decide) ?_
  refine lv_iadd hx hb dL_law_363 ?_
  refine va_sld hx hb hX hbl hbA hS (ix2 hj hL) dL_law_364 ?_
  refine wd_cv X hP hS L0 ml_L_41 ⟨_, _, rfl⟩ (c_X11_rope l D dA zz bs mm (xs (nI j + 1).toNatClampNeg) (xs (nI j + 2).toNatClampNeg) r h1) rfl ⟨Nat.le_of_ble_eq_true rfl, Nat.le_of_ble_eq_true rfl⟩ hl.1 rfl (rest := []) (Nat.le_of_ble_eq_true rfl) hce dL_law_365 (fun H locs hP hS => ?_)
  refine W.eq (g2 := F0 m 368 ls [.int r]) rfl ?_
  refine lv_aload_n hx hb dL_law_368 rfl (lv_at hl 2 rfl) ?_
  refine lv_aload_n hx hb dL_law_369 rfl (lv_at hl 0 rfl) ?_
  refine lv_iload_n hx hb dL_law_370 rfl (lv_at hl 3 rfl) ?_
  refine lv_iconst (v := 1) hx hb dL_law_371 (by decide) ?_
  refine lv_iadd hx hb dL_law_372 ?_
  refine va_sld hx hb hX hbl hbA hS (ix1 hj hL) dL_law_373 ?_
  refine lv_aload_n hx hb dL_law_374 rfl (lv_at hl 0 rfl) ?_
  refine lv_iload_n hx hb dL_law_375 rfl (lv_at hl 3 rfl) ?_
  refine lv_iconst (v := 2) hx hb dL_law_376 (by decide) ?_
  refine lv_iadd hx hb dL_law_377 ?_
  refine va_sld hx hb hX hbl hbA hS (ix2 hj hL) dL_law_378 ?_
  refine wd_cv X hP hS L1088 ml_L_44 ⟨_, _, rfl⟩ (c_X12_rope l D dA zz bs mm (xs (nI j + 1).toNatClampNeg) (xs (nI j + 2).toNatClampNeg) r h2) rfl ⟨Nat.le_of_ble_eq_true rfl, Nat.le_of_ble_eq_true rfl⟩ hl.1 rfl (rest := [.int r]) (Nat.le_of_ble_eq_true rfl) hce dL_law_379 (fun H locs hP hS => ?_)
  refine W.eq (g2 := F0 m 382 ls [.int r, .int r]) rfl ?_
  refine lv_icmp_eq (tgt := 1092) hx hb dL_law_382 (by decide) (fun _ => ?_) (fun c_ => absurd rfl c_)
  exact kk mm H locs hI hP hS
set_option maxRecDepth 100000 in
set_option maxHeartbeats 4000000 in
theorem lc_rapid {p : Program} {l : Launch} {e : Env} {s : State} {m : MethodId} {below : List Frame} {meth : Method} {c : Code} {D : va_G} {dA : Nat → ClassId} {zz : (Nat → Nat) × (Nat → Nat)} {bs b L : Nat} {xs : Nat → Int32} {Q : State → Prop} {CE SL j : Nat} (X : Cx p m meth c cL_law 4 s #[.ref b] RL D dA zz bs) (hX : va_X b L xs s s.heap) (hbl : b < s.heap.size) (hbA : ¬ Aq bs b) (hj : j + 6 ≤ L) (hL : L ≤ 3072) (hce : CE ≤ room_1.cells ∧ SL ≤ room_1.slots) (I : Mm → Prop) (hs : sm_rapid I) {mm : Mm} (hI : I mm) {H : Heap} {locs : List Loc} {ls : Array Slot} (hP : Wd D dA bs LY mm H) (hS : va_S (Aq bs) s.heap H locs) (hl : lv_has ls 4 [(0, .ref b), (1, .ref (bs + 0)), (2, .ref (bs + 1088)), (3, .int (nI j))])
    (kk : ∀ (m' : Mm) (H : Heap) (locs : List Loc), I m' → Wd D dA bs LY m' H → va_S (Aq bs) s.heap H locs → W p l e room_1 s m #[.ref b] below meth c H locs CE SL Q (F0 m 1092 ls [])) : W p l e room_1 s m #[.ref b] below meth c H locs CE SL Q (F0 m 387 ls []) := by
  obtain ⟨r, h1, h2, hI⟩ := hs mm (xs (nI j + 1).toNatClampNeg) hI
  have hx := X.1
  have hb := X.2.1
  refine lv_aload_n hx hb dL_law_387 rfl (lv_at hl 1 rfl) ?_
  refine lv_aload_n hx hb dL_law_388 rfl (lv_at hl 0 rfl) ?_
  refine lv_iload_n hx hb dL_law_389 rfl (lv_at hl 3 rfl) ?_
  refine lv_iconst (v := 1) hx hb dL_law_390 (by decide) ?_
  refine lv_iadd hx hb dL_law_391 ?_
  refine va_sld hx hb hX hbl hbA hS (ix1 hj hL) dL_law_392 ?_
  refine wd_cv X hP hS L0 ml_L_45 ⟨_, _, rfl⟩ (c_X11_rapid l D dA zz bs mm (xs (nI j + 1).toNatClampNeg) r h1) rfl ⟨Nat.le_of_ble_eq_true rfl, Nat.le_of_ble_eq_true rfl⟩ hl.1 rfl (rest := []) (Nat.le_of_ble_eq_true rfl) hce dL_law_393 (fun H locs hP hS => ?_)
  refine W.eq (g2 := F0 m 396 ls [.int r]) rfl ?_
  refine lv_aload_n hx hb dL_law_396 rfl (lv_at hl 2 rfl) ?_
  refine lv_aload_n hx hb dL_law_397 rfl (lv_at hl 0 rfl) ?_
  refine lv_iload_n hx hb dL_law_398 rfl (lv_at hl 3 rfl) ?_
  refine lv_iconst (v := 1) hx hb dL_law_399 (by decide) ?_
  refine lv_iadd hx hb dL_law_400 ?_
  refine va_sld hx hb hX hbl hbA hS (ix1 hj hL) dL_law_401 ?_
  refine wd_cv X hP hS L1088 ml_L_48 ⟨_, _, rfl⟩ (c_X12_rapid l D dA zz bs mm (xs (nI j + 1).toNatClampNeg) r h2) rfl ⟨Nat.le_of_ble_eq_true rfl, Nat.le_of_ble_eq_true rfl⟩ hl.1 rfl (rest := [.int r]) (Nat.le_of_ble_eq_true rfl) hce dL_law_402 (fun H locs hP hS => ?_)
  refine W.eq (g2 := F0 m 405 ls [.int r, .int r]) rfl ?_
  refine lv_icmp_eq (tgt := 1092) hx hb dL_law_405 (by decide) (fun _ => ?_) (fun c_ => absurd rfl c_)
  exact kk mm H locs hI hP hS
set_option maxRecDepth 100000 in
set_option maxHeartbeats 4000000 in
theorem lc_margin {p : Program} {l : Launch} {e : Env} {s : State} {m : MethodId} {below : List Frame} {meth : Method} {c : Code} {D : va_G} {dA : Nat → ClassId} {zz : (Nat → Nat) × (Nat → Nat)} {bs b L : Nat} {xs : Nat → Int32} {Q : State → Prop} {CE SL j : Nat} (X : Cx p m meth c cL_law 4 s #[.ref b] RL D dA zz bs) (hX : va_X b L xs s s.heap) (hbl : b < s.heap.size) (hbA : ¬ Aq bs b) (hj : j + 6 ≤ L) (hL : L ≤ 3072) (hce : CE ≤ room_1.cells ∧ SL ≤ room_1.slots) (I : Mm → Prop) (hs : sm_margin I) {mm : Mm} (hI : I mm) {H : Heap} {locs : List Loc} {ls : Array Slot} (hP : Wd D dA bs LY mm H) (hS : va_S (Aq bs) s.heap H locs) (hl : lv_has ls 4 [(0, .ref b), (1, .ref (bs + 0)), (2, .ref (bs + 1088)), (3, .int (nI j))])
    (kk : ∀ (m' : Mm) (H : Heap) (locs : List Loc), I m' → Wd D dA bs LY m' H → va_S (Aq bs) s.heap H locs → W p l e room_1 s m #[.ref b] below meth c H locs CE SL Q (F0 m 1092 ls [])) : W p l e room_1 s m #[.ref b] below meth c H locs CE SL Q (F0 m 410 ls []) := by
  obtain ⟨r, m1, h1, h2, hI⟩ := hs mm (xs (nI j + 1).toNatClampNeg) hI
  have hx := X.1
  have hb := X.2.1
  refine lv_aload_n hx hb dL_law_410 rfl (lv_at hl 1 rfl) ?_
  refine lv_aload_n hx hb dL_law_411 rfl (lv_at hl 0 rfl) ?_
  refine lv_iload_n hx hb dL_law_412 rfl (lv_at hl 3 rfl) ?_
  refine lv_iconst (v := 1) hx hb dL_law_413 (by decide) ?_
  refine lv_iadd hx hb dL_law_414 ?_
  refine va_sld hx hb hX hbl hbA hS (ix1 hj hL) dL_law_415 ?_
  refine wd_cv X hP hS L0 ml_L_49 ⟨_, _, rfl⟩ (c_X11_margin l D dA zz bs mm (xs (nI j + 1).toNatClampNeg) r m1 h1) rfl ⟨Nat.le_of_ble_eq_true rfl, Nat.le_of_ble_eq_true rfl⟩ hl.1 rfl (rest := []) (Nat.le_of_ble_eq_true rfl) hce dL_law_416 (fun H locs hP hS => ?_)
  refine W.eq (g2 := F0 m 419 ls [.int r]) rfl ?_
  refine lv_aload_n hx hb dL_law_419 rfl (lv_at hl 2 rfl) ?_
  refine lv_aload_n hx hb dL_law_420 rfl (lv_at hl 0 rfl) ?_
  refine lv_iload_n hx hb dL_law_421 rfl (lv_at hl 3 rfl) ?_
  refine lv_iconst (v := 1) hx hb dL_law_422 (by decide) ?_
  refine lv_iadd hx hb dL_law_423 ?_
  refine va_sld hx hb hX hbl hbA hS (ix1 hj hL) dL_law_424 ?_
  refine wd_cv X hP hS L1088 ml_L_52 ⟨_, _, rfl⟩ (c_X12_margin l D dA zz bs m1 (xs (nI j + 1).toNatClampNeg) r h2) rfl ⟨Nat.le_of_ble_eq_true rfl, Nat.le_of_ble_eq_true rfl⟩ hl.1 rfl (rest := [.int r]) (Nat.le_of_ble_eq_true rfl) hce dL_law_425 (fun H locs hP hS => ?_)
  refine W.eq (g2 := F0 m 428 ls [.int r, .int r]) rfl ?_
  refine lv_icmp_eq (tgt := 1092) hx hb dL_law_428 (by decide) (fun _ => ?_) (fun c_ => absurd rfl c_)
  exact kk m1 H locs hI hP hS
set_option maxRecDepth 100000 in
set_option maxHeartbeats 4000000 in
theorem lc_mile {p : Program} {l : Launch} {e : Env} {s : State} {m : MethodId} {below : List Frame} {meth : Method} {c : Code} {D : va_G} {dA : Nat → ClassId} {zz : (Nat → Nat) × (Nat → Nat)} {bs b L : Nat} {xs : Nat → Int32} {Q : State → Prop} {CE SL j : Nat} (X : Cx p m meth c cL_law 4 s #[.ref b] RL D dA zz bs) (hX : va_X b L xs s s.heap) (hbl : b < s.heap.size) (hbA : ¬ Aq bs b) (hj : j + 6 ≤ L) (hL : L ≤ 3072) (hce : CE ≤ room_1.cells ∧ SL ≤ room_1.slots) (I : Mm → Prop) (hs : sm_mile I) {mm : Mm} (hI : I mm) {H : Heap} {locs : List Loc} {ls : Array Slot} (hP : Wd D dA bs LY mm H) (hS : va_S (Aq bs) s.heap H locs) (hl : lv_has ls 4 [(0, .ref b), (1, .ref (bs + 0)), (2, .ref (bs + 1088)), (3, .int (nI j))])
    (kk : ∀ (m' : Mm) (H : Heap) (locs : List Loc), I m' → Wd D dA bs LY m' H → va_S (Aq bs) s.heap H locs → W p l e room_1 s m #[.ref b] below meth c H locs CE SL Q (F0 m 1092 ls [])) : W p l e room_1 s m #[.ref b] below meth c H locs CE SL Q (F0 m 433 ls []) := by
  obtain ⟨r, m1, m2, h1, h2, hI⟩ := hs mm  hI
  have hx := X.1
  have hb := X.2.1
  refine lv_aload_n hx hb dL_law_433 rfl (lv_at hl 1 rfl) ?_
  refine wd_cv X hP hS L0 ml_L_53 ⟨_, _, rfl⟩ (c_X11_mile l D dA zz bs mm  r m1 h1) rfl ⟨Nat.le_of_ble_eq_true rfl, Nat.le_of_ble_eq_true rfl⟩ hl.1 rfl (rest := []) (Nat.le_of_ble_eq_true rfl) hce dL_law_434 (fun H locs hP hS => ?_)
  refine W.eq (g2 := F0 m 437 ls [.int r]) rfl ?_
  refine lv_aload_n hx hb dL_law_437 rfl (lv_at hl 2 rfl) ?_
  refine wd_cv X hP hS L1088 ml_L_56 ⟨_, _, rfl⟩ (c_X12_mile l D dA zz bs m1  r m2 h2) rfl ⟨Nat.le_of_ble_eq_true rfl, Nat.le_of_ble_eq_true rfl⟩ hl.1 rfl (rest := [.int r]) (Nat.le_of_ble_eq_true rfl) hce dL_law_438 (fun H locs hP hS => ?_)
  refine W.eq (g2 := F0 m 441 ls [.int r, .int r]) rfl ?_
  refine lv_icmp_eq (tgt := 1092) hx hb dL_law_441 (by decide) (fun _ => ?_) (fun c_ => absurd rfl c_)
  exact kk m2 H locs hI hP hS
set_option maxRecDepth 100000 in
set_option maxHeartbeats 4000000 in
theorem lc_bind {p : Program} {l : Launch} {e : Env} {s : State} {m : MethodId} {below : List Frame} {meth : Method} {c : Code} {D : va_G} {dA : Nat → ClassId} {zz : (Nat → Nat) × (Nat → Nat)} {bs b L : Nat} {xs : Nat → Int32} {Q : State → Prop} {CE SL j : Nat} (X : Cx p m meth c cL_law 4 s #[.ref b] RL D dA zz bs) (hX : va_X b L xs s s.heap) (hbl : b < s.heap.size) (hbA : ¬ Aq bs b) (hj : j + 6 ≤ L) (hL : L ≤ 3072) (hce : CE ≤ room_1.cells ∧ SL ≤ room_1.slots) (I : Mm → Prop) (hs : sm_bind I) {mm : Mm} (hI : I mm) {H : Heap} {locs : List Loc} {ls : Array Slot} (hP : Wd D dA bs LY mm H) (hS : va_S (Aq bs) s.heap H locs) (hl : lv_has ls 4 [(0, .ref b), (1, .ref (bs + 0)), (2, .ref (bs + 1088)), (3, .int (nI j))])
    (kk : ∀ (m' : Mm) (H : Heap) (locs : List Loc), I m' → Wd D dA bs LY m' H → va_S (Aq bs) s.heap H locs → W p l e room_1 s m #[.ref b] below meth c H locs CE SL Q (F0 m 1092 ls [])) : W p l e room_1 s m #[.ref b] below meth c H locs CE SL Q (F0 m 446 ls []) := by
  obtain ⟨r, m1, m2, h1, h2, hI⟩ := hs mm (xs (nI j + 1).toNatClampNeg) (xs (nI j + 2).toNatClampNeg) (xs (nI j + 3).toNatClampNeg) hI
  have hx := X.1
  have hb := X.2.1
  refine lv_aload_n hx hb dL_law_446 rfl (lv_at hl 1 rfl) ?_
  refine lv_aload_n hx hb dL_law_447 rfl (lv_at hl 0 rfl) ?_
  refine lv_iload_n hx hb dL_law_448 rfl (lv_at hl 3 rfl) ?_
  refine lv_iconst (v := 1) hx hb dL_law_449 (by decide) ?_
  refine lv_iadd hx hb dL_law_450 ?_
  refine va_sld hx hb hX hbl hbA hS (ix1 hj hL) dL_law_451 ?_
  refine lv_aload_n hx hb dL_law_452 rfl (lv_at hl 0 rfl) ?_
  refine lv_iload_n hx hb dL_law_453 rfl (lv_at hl 3 rfl) ?_
  refine lv_iconst (v := 2) hx hb dL_law_454 (by decide) ?_
  refine lv_iadd hx hb dL_law_455 ?_
  refine va_sld hx hb hX hbl hbA hS (ix2 hj hL) dL_law_456 ?_
  refine lv_aload_n hx hb dL_law_457 rfl (lv_at hl 0 rfl) ?_
  refine lv_iload_n hx hb dL_law_458 rfl (lv_at hl 3 rfl) ?_
  refine lv_iconst (v := 3) hx hb dL_law_459 (by decide) ?_
  refine lv_iadd hx hb dL_law_460 ?_
  refine va_sld hx hb hX hbl hbA hS (ix3 hj hL) dL_law_461 ?_
  refine wd_cv X hP hS L0 ml_L_57 ⟨_, _, rfl⟩ (c_X11_bind l D dA zz bs mm (xs (nI j + 1).toNatClampNeg) (xs (nI j + 2).toNatClampNeg) (xs (nI j + 3).toNatClampNeg) r m1 h1) rfl ⟨Nat.le_of_ble_eq_true rfl, Nat.le_of_ble_eq_true rfl⟩ hl.1 rfl (rest := []) (Nat.le_of_ble_eq_true rfl) hce dL_law_462 (fun H locs hP hS => ?_)
  refine W.eq (g2 := F0 m 465 ls [.int r]) rfl ?_
  refine lv_aload_n hx hb dL_law_465 rfl (lv_at hl 2 rfl) ?_
  refine lv_aload_n hx hb dL_law_466 rfl (lv_at hl 0 rfl) ?_
  refine lv_iload_n hx hb dL_law_467 rfl (lv_at hl 3 rfl) ?_
  refine lv_iconst (v := 1) hx hb dL_law_468 (by decide) ?_
  refine lv_iadd hx hb dL_law_469 ?_
  refine va_sld hx hb hX hbl hbA hS (ix1 hj hL) dL_law_470 ?_
  refine lv_aload_n hx hb dL_law_471 rfl (lv_at hl 0 rfl) ?_
  refine lv_iload_n hx hb dL_law_472 rfl (lv_at hl 3 rfl) ?_
  refine lv_iconst (v := 2) hx hb dL_law_473 (by decide) ?_
  refine lv_iadd hx hb dL_law_474 ?_
  refine va_sld hx hb hX hbl hbA hS (ix2 hj hL) dL_law_475 ?_
  refine lv_aload_n hx hb dL_law_476 rfl (lv_at hl 0 rfl) ?_
  refine lv_iload_n hx hb dL_law_477 rfl (lv_at hl 3 rfl) ?_
  refine lv_iconst (v := 3) hx hb dL_law_478 (by decide) ?_
  refine lv_iadd hx hb dL_law_479 ?_
  refine va_sld hx hb hX hbl hbA hS (ix3 hj hL) dL_law_480 ?_
  refine wd_cv X hP hS L1088 ml_L_61 ⟨_, _, rfl⟩ (c_X12_bind l D dA zz bs m1 (xs (nI j + 1).toNatClampNeg) (xs (nI j + 2).toNatClampNeg) (xs (nI j + 3).toNatClampNeg) r m2 h2) rfl ⟨Nat.le_of_ble_eq_true rfl, Nat.le_of_ble_eq_true rfl⟩ hl.1 rfl (rest := [.int r]) (Nat.le_of_ble_eq_true rfl) hce dL_law_481 (fun H locs hP hS => ?_)
  refine W.eq (g2 := F0 m 484 ls [.int r, .int r]) rfl ?_
  refine lv_icmp_eq (tgt := 1092) hx hb dL_law_484 (by decide) (fun _ => ?_) (fun c_ => absurd rfl c_)
  exact kk m2 H locs hI hP hS
set_option maxRecDepth 100000 in
set_option maxHeartbeats 4000000 in
theorem lc_cut {p : Program} {l : Launch} {e : Env} {s : State} {m : MethodId} {below : List Frame} {meth : Method} {c : Code} {D : va_G} {dA : Nat → ClassId} {zz : (Nat → Nat) × (Nat → Nat)} {bs b L : Nat} {xs : Nat → Int32} {Q : State → Prop} {CE SL j : Nat} (X : Cx p m meth c cL_law 4 s #[.ref b] RL D dA zz bs) (hX : va_X b L xs s s.heap) (hbl : b < s.heap.size) (hbA : ¬ Aq bs b) (hj : j + 6 ≤ L) (hL : L ≤ 3072) (hce : CE ≤ room_1.cells ∧ SL ≤ room_1.slots) (I : Mm → Prop) (hs : sm_cut I) {mm : Mm} (hI : I mm) {H : Heap} {locs : List Loc} {ls : Array Slot} (hP : Wd D dA bs LY mm H) (hS : va_S (Aq bs) s.heap H locs) (hl : lv_has ls 4 [(0, .ref b), (1, .ref (bs + 0)), (2, .ref (bs + 1088)), (3, .int (nI j))])
    (kk : ∀ (m' : Mm) (H : Heap) (locs : List Loc), I m' → Wd D dA bs LY m' H → va_S (Aq bs) s.heap H locs → W p l e room_1 s m #[.ref b] below meth c H locs CE SL Q (F0 m 1092 ls [])) : W p l e room_1 s m #[.ref b] below meth c H locs CE SL Q (F0 m 489 ls []) := by
  obtain ⟨r, m1, m2, h1, h2, hI⟩ := hs mm (xs (nI j + 1).toNatClampNeg) hI
  have hx := X.1
  have hb := X.2.1
  refine lv_aload_n hx hb dL_law_489 rfl (lv_at hl 1 rfl) ?_
  refine lv_aload_n hx hb dL_law_490 rfl (lv_at hl 0 rfl) ?_
  refine lv_iload_n hx hb dL_law_491 rfl (lv_at hl 3 rfl) ?_
  refine lv_iconst (v := 1) hx hb dL_law_492 (by decide) ?_
  refine lv_iadd hx hb dL_law_493 ?_
  refine va_sld hx hb hX hbl hbA hS (ix1 hj hL) dL_law_494 ?_
  refine wd_cv X hP hS L0 ml_L_62 ⟨_, _, rfl⟩ (c_X11_cut l D dA zz bs mm (xs (nI j + 1).toNatClampNeg) r m1 h1) rfl ⟨Nat.le_of_ble_eq_true rfl, Nat.le_of_ble_eq_true rfl⟩ hl.1 rfl (rest := []) (Nat.le_of_ble_eq_true rfl) hce dL_law_495 (fun H locs hP hS => ?_)
  refine W.eq (g2 := F0 m 498 ls [.int r]) rfl ?_
  refine lv_aload_n hx hb dL_law_498 rfl (lv_at hl 2 rfl) ?_
  refine lv_aload_n hx hb dL_law_499 rfl (lv_at hl 0 rfl) ?_
  refine lv_iload_n hx hb dL_law_500 rfl (lv_at hl 3 rfl) ?_
  refine lv_iconst (v := 1) hx hb dL_law_501 (by decide) ?_
  refine lv_iadd hx hb dL_law_502 ?_
  refine va_sld hx hb hX hbl hbA hS (ix1 hj hL) dL_law_503 ?_
  refine wd_cv X hP hS L1088 ml_L_65 ⟨_, _, rfl⟩ (c_X12_cut l D dA zz bs m1 (xs (nI j + 1).toNatClampNeg) r m2 h2) rfl ⟨Nat.le_of_ble_eq_true rfl, Nat.le_of_ble_eq_true rfl⟩ hl.1 rfl (rest := [.int r]) (Nat.le_of_ble_eq_true rfl) hce dL_law_504 (fun H locs hP hS => ?_)
  refine W.eq (g2 := F0 m 507 ls [.int r, .int r]) rfl ?_
  refine lv_icmp_eq (tgt := 1092) hx hb dL_law_507 (by decide) (fun _ => ?_) (fun c_ => absurd rfl c_)
  exact kk m2 H locs hI hP hS
set_option maxRecDepth 100000 in
set_option maxHeartbeats 4000000 in
theorem lc_saw {p : Program} {l : Launch} {e : Env} {s : State} {m : MethodId} {below : List Frame} {meth : Method} {c : Code} {D : va_G} {dA : Nat → ClassId} {zz : (Nat → Nat) × (Nat → Nat)} {bs b L : Nat} {xs : Nat → Int32} {Q : State → Prop} {CE SL j : Nat} (X : Cx p m meth c cL_law 4 s #[.ref b] RL D dA zz bs) (hX : va_X b L xs s s.heap) (hbl : b < s.heap.size) (hbA : ¬ Aq bs b) (hj : j + 6 ≤ L) (hL : L ≤ 3072) (hce : CE ≤ room_1.cells ∧ SL ≤ room_1.slots) (I : Mm → Prop) (hs : sm_saw I) {mm : Mm} (hI : I mm) {H : Heap} {locs : List Loc} {ls : Array Slot} (hP : Wd D dA bs LY mm H) (hS : va_S (Aq bs) s.heap H locs) (hl : lv_has ls 4 [(0, .ref b), (1, .ref (bs + 0)), (2, .ref (bs + 1088)), (3, .int (nI j))])
    (kk : ∀ (m' : Mm) (H : Heap) (locs : List Loc), I m' → Wd D dA bs LY m' H → va_S (Aq bs) s.heap H locs → W p l e room_1 s m #[.ref b] below meth c H locs CE SL Q (F0 m 1092 ls [])) : W p l e room_1 s m #[.ref b] below meth c H locs CE SL Q (F0 m 512 ls []) := by
  obtain ⟨r, m1, m2, h1, h2, hI⟩ := hs mm (xs (nI j + 1).toNatClampNeg) hI
  have hx := X.1
  have hb := X.2.1
  refine lv_aload_n hx hb dL_law_512 rfl (lv_at hl 1 rfl) ?_
  refine lv_aload_n hx hb dL_law_513 rfl (lv_at hl 0 rfl) ?_
  refine lv_iload_n hx hb dL_law_514 rfl (lv_at hl 3 rfl) ?_
  refine lv_iconst (v := 1) hx hb dL_law_515 (by decide) ?_
  refine lv_iadd hx hb dL_law_516 ?_
  refine va_sld hx hb hX hbl hbA hS (ix1 hj hL) dL_law_517 ?_
  refine wd_cv X hP hS L0 ml_L_66 ⟨_, _, rfl⟩ (c_X11_saw l D dA zz bs mm (xs (nI j + 1).toNatClampNeg) r m1 h1) rfl ⟨Nat.le_of_ble_eq_true rfl, Nat.le_of_ble_eq_true rfl⟩ hl.1 rfl (rest := []) (Nat.le_of_ble_eq_true rfl) hce dL_law_518 (fun H locs hP hS => ?_)
  refine W.eq (g2 := F0 m 521 ls [.int r]) rfl ?_
  refine lv_aload_n hx hb dL_law_521 rfl (lv_at hl 2 rfl) ?_
  refine lv_aload_n hx hb dL_law_522 rfl (lv_at hl 0 rfl) ?_
  refine lv_iload_n hx hb dL_law_523 rfl (lv_at hl 3 rfl) ?_
  refine lv_iconst (v := 1) hx hb dL_law_524 (by decide) ?_
  refine lv_iadd hx hb dL_law_525 ?_
  refine va_sld hx hb hX hbl hbA hS (ix1 hj hL) dL_law_526 ?_
  refine wd_cv X hP hS L1088 ml_L_69 ⟨_, _, rfl⟩ (c_X12_saw l D dA zz bs m1 (xs (nI j + 1).toNatClampNeg) r m2 h2) rfl ⟨Nat.le_of_ble_eq_true rfl, Nat.le_of_ble_eq_true rfl⟩ hl.1 rfl (rest := [.int r]) (Nat.le_of_ble_eq_true rfl) hce dL_law_527 (fun H locs hP hS => ?_)
  refine W.eq (g2 := F0 m 530 ls [.int r, .int r]) rfl ?_
  refine lv_icmp_eq (tgt := 1092) hx hb dL_law_530 (by decide) (fun _ => ?_) (fun c_ => absurd rfl c_)
  exact kk m2 H locs hI hP hS
set_option maxRecDepth 100000 in
set_option maxHeartbeats 4000000 in
theorem lc_push {p : Program} {l : Launch} {e : Env} {s : State} {m : MethodId} {below : List Frame} {meth : Method} {c : Code} {D : va_G} {dA : Nat → ClassId} {zz : (Nat → Nat) × (Nat → Nat)} {bs b L : Nat} {xs : Nat → Int32} {Q : State → Prop} {CE SL j : Nat} (X : Cx p m meth c cL_law 4 s #[.ref b] RL D dA zz bs) (hX : va_X b L xs s s.heap) (hbl : b < s.heap.size) (hbA : ¬ Aq bs b) (hj : j + 6 ≤ L) (hL : L ≤ 3072) (hce : CE ≤ room_1.cells ∧ SL ≤ room_1.slots) (I : Mm → Prop) (hs : sm_push I) {mm : Mm} (hI : I mm) {H : Heap} {locs : List Loc} {ls : Array Slot} (hP : Wd D dA bs LY mm H) (hS : va_S (Aq bs) s.heap H locs) (hl : lv_has ls 4 [(0, .ref b), (1, .ref (bs + 0)), (2, .ref (bs + 1088)), (3, .int (nI j))])
    (kk : ∀ (m' : Mm) (H : Heap) (locs : List Loc), I m' → Wd D dA bs LY m' H → va_S (Aq bs) s.heap H locs → W p l e room_1 s m #[.ref b] below meth c H locs CE SL Q (F0 m 1092 ls [])) : W p l e room_1 s m #[.ref b] below meth c H locs CE SL Q (F0 m 535 ls []) := by
  obtain ⟨r, m1, m2, h1, h2, hI⟩ := hs mm (xs (nI j + 1).toNatClampNeg) (xs (nI j + 2).toNatClampNeg) hI
  have hx := X.1
  have hb := X.2.1
  refine lv_aload_n hx hb dL_law_535 rfl (lv_at hl 1 rfl) ?_
  refine lv_aload_n hx hb dL_law_536 rfl (lv_at hl 0 rfl) ?_
  refine lv_iload_n hx hb dL_law_537 rfl (lv_at hl 3 rfl) ?_
  refine lv_iconst (v := 1) hx hb dL_law_538 (by decide) ?_
  refine lv_iadd hx hb dL_law_539 ?_
  refine va_sld hx hb hX hbl hbA hS (ix1 hj hL) dL_law_540 ?_
  refine lv_aload_n hx hb dL_law_541 rfl (lv_at hl 0 rfl) ?_
  refine lv_iload_n hx hb dL_law_542 rfl (lv_at hl 3 rfl) ?_
  refine lv_iconst (v := 2) hx hb dL_law_543 (by decide) ?_
  refine lv_iadd hx hb dL_law_544 ?_
  refine va_sld hx hb hX hbl hbA hS (ix2 hj hL) dL_law_545 ?_
  refine wd_cv X hP hS L0 ml_L_70 ⟨_, _, rfl⟩ (c_X11_push l D dA zz bs mm (xs (nI j + 1).toNatClampNeg) (xs (nI j + 2).toNatClampNeg) r m1 h1) rfl ⟨Nat.le_of_ble_eq_true rfl, Nat.le_of_ble_eq_true rfl⟩ hl.1 rfl (rest := []) (Nat.le_of_ble_eq_true rfl) hce dL_law_546 (fun H locs hP hS => ?_)
  refine W.eq (g2 := F0 m 549 ls [.int r]) rfl ?_
  refine lv_aload_n hx hb dL_law_549 rfl (lv_at hl 2 rfl) ?_
  refine lv_aload_n hx hb dL_law_550 rfl (lv_at hl 0 rfl) ?_
  refine lv_iload_n hx hb dL_law_551 rfl (lv_at hl 3 rfl) ?_
  refine lv_iconst (v := 1) hx hb dL_law_552 (by decide) ?_
  refine lv_iadd hx hb dL_law_553 ?_
  refine va_sld hx hb hX hbl hbA hS (ix1 hj hL) dL_law_554 ?_
  refine lv_aload_n hx hb dL_law_555 rfl (lv_at hl 0 rfl) ?_
  refine lv_iload_n hx hb dL_law_556 rfl (lv_at hl 3 rfl) ?_
  refine lv_iconst (v := 2) hx hb dL_law_557 (by decide) ?_
  refine lv_iadd hx hb dL_law_558 ?_
  refine va_sld hx hb hX hbl hbA hS (ix2 hj hL) dL_law_559 ?_
  refine wd_cv X hP hS L1088 ml_L_73 ⟨_, _, rfl⟩ (c_X12_push l D dA zz bs m1 (xs (nI j + 1).toNatClampNeg) (xs (nI j + 2).toNatClampNeg) r m2 h2) rfl ⟨Nat.le_of_ble_eq_true rfl, Nat.le_of_ble_eq_true rfl⟩ hl.1 rfl (rest := [.int r]) (Nat.le_of_ble_eq_true rfl) hce dL_law_560 (fun H locs hP hS => ?_)
  refine W.eq (g2 := F0 m 563 ls [.int r, .int r]) rfl ?_
  refine lv_icmp_eq (tgt := 1092) hx hb dL_law_563 (by decide) (fun _ => ?_) (fun c_ => absurd rfl c_)
  exact kk m2 H locs hI hP hS
set_option maxRecDepth 100000 in
set_option maxHeartbeats 4000000 in
theorem lc_undo {p : Program} {l : Launch} {e : Env} {s : State} {m : MethodId} {below : List Frame} {meth : Method} {c : Code} {D : va_G} {dA : Nat → ClassId} {zz : (Nat → Nat) × (Nat → Nat)} {bs b L : Nat} {xs : Nat → Int32} {Q : State → Prop} {CE SL j : Nat} (X : Cx p m meth c cL_law 4 s #[.ref b] RL D dA zz bs) (hX : va_X b L xs s s.heap) (hbl : b < s.heap.size) (hbA : ¬ Aq bs b) (hj : j + 6 ≤ L) (hL : L ≤ 3072) (hce : CE ≤ room_1.cells ∧ SL ≤ room_1.slots) (I : Mm → Prop) (hs : sm_undo I) {mm : Mm} (hI : I mm) {H : Heap} {locs : List Loc} {ls : Array Slot} (hP : Wd D dA bs LY mm H) (hS : va_S (Aq bs) s.heap H locs) (hl : lv_has ls 4 [(0, .ref b), (1, .ref (bs + 0)), (2, .ref (bs + 1088)), (3, .int (nI j))])
    (kk : ∀ (m' : Mm) (H : Heap) (locs : List Loc), I m' → Wd D dA bs LY m' H → va_S (Aq bs) s.heap H locs → W p l e room_1 s m #[.ref b] below meth c H locs CE SL Q (F0 m 1092 ls [])) : W p l e room_1 s m #[.ref b] below meth c H locs CE SL Q (F0 m 568 ls []) := by
  obtain ⟨r, m1, m2, h1, h2, hI⟩ := hs mm  hI
  have hx := X.1
  have hb := X.2.1
  refine lv_aload_n hx hb dL_law_568 rfl (lv_at hl 1 rfl) ?_
  refine wd_cv X hP hS L0 ml_L_74 ⟨_, _, rfl⟩ (c_X11_undo l D dA zz bs mm  r m1 h1) rfl ⟨Nat.le_of_ble_eq_true rfl, Nat.le_of_ble_eq_true rfl⟩ hl.1 rfl (rest := []) (Nat.le_of_ble_eq_true rfl) hce dL_law_569 (fun H locs hP hS => ?_)
  refine W.eq (g2 := F0 m 572 ls [.int r]) rfl ?_
  refine lv_aload_n hx hb dL_law_572 rfl (lv_at hl 2 rfl) ?_
  refine wd_cv X hP hS L1088 ml_L_77 ⟨_, _, rfl⟩ (c_X12_undo l D dA zz bs m1  r m2 h2) rfl ⟨Nat.le_of_ble_eq_true rfl, Nat.le_of_ble_eq_true rfl⟩ hl.1 rfl (rest := [.int r]) (Nat.le_of_ble_eq_true rfl) hce dL_law_573 (fun H locs hP hS => ?_)
  refine W.eq (g2 := F0 m 576 ls [.int r, .int r]) rfl ?_
  refine lv_icmp_eq (tgt := 1092) hx hb dL_law_576 (by decide) (fun _ => ?_) (fun c_ => absurd rfl c_)
  exact kk m2 H locs hI hP hS
set_option maxRecDepth 100000 in
set_option maxHeartbeats 4000000 in
theorem lc_run {p : Program} {l : Launch} {e : Env} {s : State} {m : MethodId} {below : List Frame} {meth : Method} {c : Code} {D : va_G} {dA : Nat → ClassId} {zz : (Nat → Nat) × (Nat → Nat)} {bs b L : Nat} {xs : Nat → Int32} {Q : State → Prop} {CE SL j : Nat} (X : Cx p m meth c cL_law 4 s #[.ref b] RL D dA zz bs) (hX : va_X b L xs s s.heap) (hbl : b < s.heap.size) (hbA : ¬ Aq bs b) (hj : j + 6 ≤ L) (hL : L ≤ 3072) (hce : CE ≤ room_1.cells ∧ SL ≤ room_1.slots) (I : Mm → Prop) (hs : sm_run I) {mm : Mm} (hI : I mm) {H : Heap} {locs : List Loc} {ls : Array Slot} (hP : Wd D dA bs LY mm H) (hS : va_S (Aq bs) s.heap H locs) (hl : lv_has ls 4 [(0, .ref b), (1, .ref (bs + 0)), (2, .ref (bs + 1088)), (3, .int (nI j))])
    (kk : ∀ (m' : Mm) (H : Heap) (locs : List Loc), I m' → Wd D dA bs LY m' H → va_S (Aq bs) s.heap H locs → W p l e room_1 s m #[.ref b] below meth c H locs CE SL Q (F0 m 1092 ls [])) : W p l e room_1 s m #[.ref b] below meth c H locs CE SL Q (F0 m 581 ls []) := by
  obtain ⟨r, m1, m2, h1, h2, hI⟩ := hs mm (xs (nI j + 1).toNatClampNeg) (xs (nI j + 2).toNatClampNeg) (xs (nI j + 3).toNatClampNeg) hI
  have hx := X.1
  have hb := X.2.1
  refine lv_aload_n hx hb dL_law_581 rfl (lv_at hl 1 rfl) ?_
  refine lv_aload_n hx hb dL_law_582 rfl (lv_at hl 0 rfl) ?_
  refine lv_iload_n hx hb dL_law_583 rfl (lv_at hl 3 rfl) ?_
  refine lv_iconst (v := 1) hx hb dL_law_584 (by decide) ?_
  refine lv_iadd hx hb dL_law_585 ?_
  refine va_sld hx hb hX hbl hbA hS (ix1 hj hL) dL_law_586 ?_
  refine lv_aload_n hx hb dL_law_587 rfl (lv_at hl 0 rfl) ?_
  refine lv_iload_n hx hb dL_law_588 rfl (lv_at hl 3 rfl) ?_
  refine lv_iconst (v := 2) hx hb dL_law_589 (by decide) ?_
  refine lv_iadd hx hb dL_law_590 ?_
  refine va_sld hx hb hX hbl hbA hS (ix2 hj hL) dL_law_591 ?_
  refine lv_aload_n hx hb dL_law_592 rfl (lv_at hl 0 rfl) ?_
  refine lv_iload_n hx hb dL_law_593 rfl (lv_at hl 3 rfl) ?_
  refine lv_iconst (v := 3) hx hb dL_law_594 (by decide) ?_
  refine lv_iadd hx hb dL_law_595 ?_
  refine va_sld hx hb hX hbl hbA hS (ix3 hj hL) dL_law_596 ?_
  refine wd_cv X hP hS L0 ml_L_78 ⟨_, _, rfl⟩ (c_X11_run l D dA zz bs mm (xs (nI j + 1).toNatClampNeg) (xs (nI j + 2).toNatClampNeg) (xs (nI j + 3).toNatClampNeg) r m1 h1) rfl ⟨Nat.le_of_ble_eq_true rfl, Nat.le_of_ble_eq_true rfl⟩ hl.1 rfl (rest := []) (Nat.le_of_ble_eq_true rfl) hce dL_law_597 (fun H locs hP hS => ?_)
  refine W.eq (g2 := F0 m 600 ls [.int r]) rfl ?_
  refine lv_aload_n hx hb dL_law_600 rfl (lv_at hl 2 rfl) ?_
  refine lv_aload_n hx hb dL_law_601 rfl (lv_at hl 0 rfl) ?_
  refine lv_iload_n hx hb dL_law_602 rfl (lv_at hl 3 rfl) ?_
  refine lv_iconst (v := 1) hx hb dL_law_603 (by decide) ?_
  refine lv_iadd hx hb dL_law_604 ?_
  refine va_sld hx hb hX hbl hbA hS (ix1 hj hL) dL_law_605 ?_
  refine lv_aload_n hx hb dL_law_606 rfl (lv_at hl 0 rfl) ?_
  refine lv_iload_n hx hb dL_law_607 rfl (lv_at hl 3 rfl) ?_
  refine lv_iconst (v := 2) hx hb dL_law_608 (by decide) ?_
  refine lv_iadd hx hb dL_law_609 ?_
  refine va_sld hx hb hX hbl hbA hS (ix2 hj hL) dL_law_610 ?_
  refine lv_aload_n hx hb dL_law_611 rfl (lv_at hl 0 rfl) ?_
  refine lv_iload_n hx hb dL_law_612 rfl (lv_at hl 3 rfl) ?_
  refine lv_iconst (v := 3) hx hb dL_law_613 (by decide) ?_
  refine lv_iadd hx hb dL_law_614 ?_
  refine va_sld hx hb hX hbl hbA hS (ix3 hj hL) dL_law_615 ?_
  refine wd_cv X hP hS L1088 ml_L_81 ⟨_, _, rfl⟩ (c_X12_run l D dA zz bs m1 (xs (nI j + 1).toNatClampNeg) (xs (nI j + 2).toNatClampNeg) (xs (nI j + 3).toNatClampNeg) r m2 h2) rfl ⟨Nat.le_of_ble_eq_true rfl, Nat.le_of_ble_eq_true rfl⟩ hl.1 rfl (rest := [.int r]) (Nat.le_of_ble_eq_true rfl) hce dL_law_616 (fun H locs hP hS => ?_)
  refine W.eq (g2 := F0 m 619 ls [.int r, .int r]) rfl ?_
  refine lv_icmp_eq (tgt := 1092) hx hb dL_law_619 (by decide) (fun _ => ?_) (fun c_ => absurd rfl c_)
  exact kk m2 H locs hI hP hS
set_option maxRecDepth 100000 in
set_option maxHeartbeats 4000000 in
theorem lc_ahead {p : Program} {l : Launch} {e : Env} {s : State} {m : MethodId} {below : List Frame} {meth : Method} {c : Code} {D : va_G} {dA : Nat → ClassId} {zz : (Nat → Nat) × (Nat → Nat)} {bs b L : Nat} {xs : Nat → Int32} {Q : State → Prop} {CE SL j : Nat} (X : Cx p m meth c cL_law 4 s #[.ref b] RL D dA zz bs) (hX : va_X b L xs s s.heap) (hbl : b < s.heap.size) (hbA : ¬ Aq bs b) (hj : j + 6 ≤ L) (hL : L ≤ 3072) (hce : CE ≤ room_1.cells ∧ SL ≤ room_1.slots) (I : Mm → Prop) (hs : sm_ahead I) {mm : Mm} (hI : I mm) {H : Heap} {locs : List Loc} {ls : Array Slot} (hP : Wd D dA bs LY mm H) (hS : va_S (Aq bs) s.heap H locs) (hl : lv_has ls 4 [(0, .ref b), (1, .ref (bs + 0)), (2, .ref (bs + 1088)), (3, .int (nI j))])
    (kk : ∀ (m' : Mm) (H : Heap) (locs : List Loc), I m' → Wd D dA bs LY m' H → va_S (Aq bs) s.heap H locs → W p l e room_1 s m #[.ref b] below meth c H locs CE SL Q (F0 m 1092 ls [])) : W p l e room_1 s m #[.ref b] below meth c H locs CE SL Q (F0 m 624 ls []) := by
  obtain ⟨r, m1, m2, h1, h2, hI⟩ := hs mm (xs (nI j + 1).toNatClampNeg) (xs (nI j + 2).toNatClampNeg) hI
  have hx := X.1
  have hb := X.2.1
  refine lv_aload_n hx hb dL_law_624 rfl (lv_at hl 1 rfl) ?_
  refine lv_aload_n hx hb dL_law_625 rfl (lv_at hl 0 rfl) ?_
  refine lv_iload_n hx hb dL_law_626 rfl (lv_at hl 3 rfl) ?_
  refine lv_iconst (v := 1) hx hb dL_law_627 (by decide) ?_
  refine lv_iadd hx hb dL_law_628 ?_
  refine va_sld hx hb hX hbl hbA hS (ix1 hj hL) dL_law_629 ?_
  refine lv_aload_n hx hb dL_law_630 rfl (lv_at hl 0 rfl) ?_
  refine lv_iload_n hx hb dL_law_631 rfl (lv_at hl 3 rfl) ?_
  refine lv_iconst (v := 2) hx hb dL_law_632 (by decide) ?_
  refine lv_iadd hx hb dL_law_633 ?_
  refine va_sld hx hb hX hbl hbA hS (ix2 hj hL) dL_law_634 ?_
  refine wd_cv X hP hS L0 ml_L_82 ⟨_, _, rfl⟩ (c_X11_ahead l D dA zz bs mm (xs (nI j + 1).toNatClampNeg) (xs (nI j + 2).toNatClampNeg) r m1 h1) rfl ⟨Nat.le_of_ble_eq_true rfl, Nat.le_of_ble_eq_true rfl⟩ hl.1 rfl (rest := []) (Nat.le_of_ble_eq_true rfl) hce dL_law_635 (fun H locs hP hS => ?_)
  refine W.eq (g2 := F0 m 638 ls [.int r]) rfl ?_
  refine lv_aload_n hx hb dL_law_638 rfl (lv_at hl 2 rfl) ?_
  refine lv_aload_n hx hb dL_law_639 rfl (lv_at hl 0 rfl) ?_
  refine lv_iload_n hx hb dL_law_640 rfl (lv_at hl 3 rfl) ?_
  refine lv_iconst (v := 1) hx hb dL_law_641 (by decide) ?_
  refine lv_iadd hx hb dL_law_642 ?_
  refine va_sld hx hb hX hbl hbA hS (ix1 hj hL) dL_law_643 ?_
  refine lv_aload_n hx hb dL_law_644 rfl (lv_at hl 0 rfl) ?_
  refine lv_iload_n hx hb dL_law_645 rfl (lv_at hl 3 rfl) ?_
  refine lv_iconst (v := 2) hx hb dL_law_646 (by decide) ?_
  refine lv_iadd hx hb dL_law_647 ?_
  refine va_sld hx hb hX hbl hbA hS (ix2 hj hL) dL_law_648 ?_
  refine wd_cv X hP hS L1088 ml_L_85 ⟨_, _, rfl⟩ (c_X12_ahead l D dA zz bs m1 (xs (nI j + 1).toNatClampNeg) (xs (nI j + 2).toNatClampNeg) r m2 h2) rfl ⟨Nat.le_of_ble_eq_true rfl, Nat.le_of_ble_eq_true rfl⟩ hl.1 rfl (rest := [.int r]) (Nat.le_of_ble_eq_true rfl) hce dL_law_649 (fun H locs hP hS => ?_)
  refine W.eq (g2 := F0 m 652 ls [.int r, .int r]) rfl ?_
  refine lv_icmp_eq (tgt := 1092) hx hb dL_law_652 (by decide) (fun _ => ?_) (fun c_ => absurd rfl c_)
  exact kk m2 H locs hI hP hS
set_option maxRecDepth 100000 in
set_option maxHeartbeats 4000000 in
theorem lc_sinks {p : Program} {l : Launch} {e : Env} {s : State} {m : MethodId} {below : List Frame} {meth : Method} {c : Code} {D : va_G} {dA : Nat → ClassId} {zz : (Nat → Nat) × (Nat → Nat)} {bs b L : Nat} {xs : Nat → Int32} {Q : State → Prop} {CE SL j : Nat} (X : Cx p m meth c cL_law 4 s #[.ref b] RL D dA zz bs) (hX : va_X b L xs s s.heap) (hbl : b < s.heap.size) (hbA : ¬ Aq bs b) (hj : j + 6 ≤ L) (hL : L ≤ 3072) (hce : CE ≤ room_1.cells ∧ SL ≤ room_1.slots) (I : Mm → Prop) (hs : sm_sinks I) {mm : Mm} (hI : I mm) {H : Heap} {locs : List Loc} {ls : Array Slot} (hP : Wd D dA bs LY mm H) (hS : va_S (Aq bs) s.heap H locs) (hl : lv_has ls 4 [(0, .ref b), (1, .ref (bs + 0)), (2, .ref (bs + 1088)), (3, .int (nI j))])
    (kk : ∀ (m' : Mm) (H : Heap) (locs : List Loc), I m' → Wd D dA bs LY m' H → va_S (Aq bs) s.heap H locs → W p l e room_1 s m #[.ref b] below meth c H locs CE SL Q (F0 m 1092 ls [])) : W p l e room_1 s m #[.ref b] below meth c H locs CE SL Q (F0 m 657 ls []) := by
  obtain ⟨r, m1, m2, h1, h2, hI⟩ := hs mm (xs (nI j + 1).toNatClampNeg) hI
  have hx := X.1
  have hb := X.2.1
  refine lv_aload_n hx hb dL_law_657 rfl (lv_at hl 1 rfl) ?_
  refine lv_aload_n hx hb dL_law_658 rfl (lv_at hl 0 rfl) ?_
  refine lv_iload_n hx hb dL_law_659 rfl (lv_at hl 3 rfl) ?_
  refine lv_iconst (v := 1) hx hb dL_law_660 (by decide) ?_
  refine lv_iadd hx hb dL_law_661 ?_
  refine va_sld hx hb hX hbl hbA hS (ix1 hj hL) dL_law_662 ?_
  refine wd_cv X hP hS L0 ml_L_86 ⟨_, _, rfl⟩ (c_X11_sinks l D dA zz bs mm (xs (nI j + 1).toNatClampNeg) r m1 h1) rfl ⟨Nat.le_of_ble_eq_true rfl, Nat.le_of_ble_eq_true rfl⟩ hl.1 rfl (rest := []) (Nat.le_of_ble_eq_true rfl) hce dL_law_663 (fun H locs hP hS => ?_)
  refine W.eq (g2 := F0 m 666 ls [.int r]) rfl ?_
  refine lv_aload_n hx hb dL_law_666 rfl (lv_at hl 2 rfl) ?_
  refine lv_aload_n hx hb dL_law_667 rfl (lv_at hl 0 rfl) ?_
  refine lv_iload_n hx hb dL_law_668 rfl (lv_at hl 3 rfl) ?_
  refine lv_iconst (v := 1) hx hb dL_law_669 (by decide) ?_
  refine lv_iadd hx hb dL_law_670 ?_
  refine va_sld hx hb hX hbl hbA hS (ix1 hj hL) dL_law_671 ?_
  refine wd_cv X hP hS L1088 ml_L_89 ⟨_, _, rfl⟩ (c_X12_sinks l D dA zz bs m1 (xs (nI j + 1).toNatClampNeg) r m2 h2) rfl ⟨Nat.le_of_ble_eq_true rfl, Nat.le_of_ble_eq_true rfl⟩ hl.1 rfl (rest := [.int r]) (Nat.le_of_ble_eq_true rfl) hce dL_law_672 (fun H locs hP hS => ?_)
  refine W.eq (g2 := F0 m 675 ls [.int r, .int r]) rfl ?_
  refine lv_icmp_eq (tgt := 1092) hx hb dL_law_675 (by decide) (fun _ => ?_) (fun c_ => absurd rfl c_)
  exact kk m2 H locs hI hP hS
set_option maxRecDepth 100000 in
set_option maxHeartbeats 4000000 in
theorem lc_bearers {p : Program} {l : Launch} {e : Env} {s : State} {m : MethodId} {below : List Frame} {meth : Method} {c : Code} {D : va_G} {dA : Nat → ClassId} {zz : (Nat → Nat) × (Nat → Nat)} {bs b L : Nat} {xs : Nat → Int32} {Q : State → Prop} {CE SL j : Nat} (X : Cx p m meth c cL_law 4 s #[.ref b] RL D dA zz bs) (hX : va_X b L xs s s.heap) (hbl : b < s.heap.size) (hbA : ¬ Aq bs b) (hj : j + 6 ≤ L) (hL : L ≤ 3072) (hce : CE ≤ room_1.cells ∧ SL ≤ room_1.slots) (I : Mm → Prop) (hs : sm_bearers I) {mm : Mm} (hI : I mm) {H : Heap} {locs : List Loc} {ls : Array Slot} (hP : Wd D dA bs LY mm H) (hS : va_S (Aq bs) s.heap H locs) (hl : lv_has ls 4 [(0, .ref b), (1, .ref (bs + 0)), (2, .ref (bs + 1088)), (3, .int (nI j))])
    (kk : ∀ (m' : Mm) (H : Heap) (locs : List Loc), I m' → Wd D dA bs LY m' H → va_S (Aq bs) s.heap H locs → W p l e room_1 s m #[.ref b] below meth c H locs CE SL Q (F0 m 1092 ls [])) : W p l e room_1 s m #[.ref b] below meth c H locs CE SL Q (F0 m 680 ls []) := by
  obtain ⟨r, h1, h2, hI⟩ := hs mm (xs (nI j + 1).toNatClampNeg) (xs (nI j + 2).toNatClampNeg) hI
  have hx := X.1
  have hb := X.2.1
  refine lv_aload_n hx hb dL_law_680 rfl (lv_at hl 1 rfl) ?_
  refine lv_aload_n hx hb dL_law_681 rfl (lv_at hl 0 rfl) ?_
  refine lv_iload_n hx hb dL_law_682 rfl (lv_at hl 3 rfl) ?_
  refine lv_iconst (v := 1) hx hb dL_law_683 (by decide) ?_
  refine lv_iadd hx hb dL_law_684 ?_
  refine va_sld hx hb hX hbl hbA hS (ix1 hj hL) dL_law_685 ?_
  refine lv_aload_n hx hb dL_law_686 rfl (lv_at hl 0 rfl) ?_
  refine lv_iload_n hx hb dL_law_687 rfl (lv_at hl 3 rfl) ?_
  refine lv_iconst (v := 2) hx hb dL_law_688 (by decide) ?_
  refine lv_iadd hx hb dL_law_689 ?_
  refine va_sld hx hb hX hbl hbA hS (ix2 hj hL) dL_law_690 ?_
  refine wd_cv X hP hS L0 ml_L_90 ⟨_, _, rfl⟩ (c_X11_bearers l D dA zz bs mm (xs (nI j + 1).toNatClampNeg) (xs (nI j + 2).toNatClampNeg) r h1) rfl ⟨Nat.le_of_ble_eq_true rfl, Nat.le_of_ble_eq_true rfl⟩ hl.1 rfl (rest := []) (Nat.le_of_ble_eq_true rfl) hce dL_law_691 (fun H locs hP hS => ?_)
  refine W.eq (g2 := F0 m 694 ls [.int r]) rfl ?_
  refine lv_aload_n hx hb dL_law_694 rfl (lv_at hl 2 rfl) ?_
  refine lv_aload_n hx hb dL_law_695 rfl (lv_at hl 0 rfl) ?_
  refine lv_iload_n hx hb dL_law_696 rfl (lv_at hl 3 rfl) ?_
  refine lv_iconst (v := 1) hx hb dL_law_697 (by decide) ?_
  refine lv_iadd hx hb dL_law_698 ?_
  refine va_sld hx hb hX hbl hbA hS (ix1 hj hL) dL_law_699 ?_
  refine lv_aload_n hx hb dL_law_700 rfl (lv_at hl 0 rfl) ?_
  refine lv_iload_n hx hb dL_law_701 rfl (lv_at hl 3 rfl) ?_
  refine lv_iconst (v := 2) hx hb dL_law_702 (by decide) ?_
  refine lv_iadd hx hb dL_law_703 ?_
  refine va_sld hx hb hX hbl hbA hS (ix2 hj hL) dL_law_704 ?_
  refine wd_cv X hP hS L1088 ml_L_93 ⟨_, _, rfl⟩ (c_X12_bearers l D dA zz bs mm (xs (nI j + 1).toNatClampNeg) (xs (nI j + 2).toNatClampNeg) r h2) rfl ⟨Nat.le_of_ble_eq_true rfl, Nat.le_of_ble_eq_true rfl⟩ hl.1 rfl (rest := [.int r]) (Nat.le_of_ble_eq_true rfl) hce dL_law_705 (fun H locs hP hS => ?_)
  refine W.eq (g2 := F0 m 708 ls [.int r, .int r]) rfl ?_
  refine lv_icmp_eq (tgt := 1092) hx hb dL_law_708 (by decide) (fun _ => ?_) (fun c_ => absurd rfl c_)
  exact kk mm H locs hI hP hS
set_option maxRecDepth 100000 in
set_option maxHeartbeats 4000000 in
theorem lc_plan {p : Program} {l : Launch} {e : Env} {s : State} {m : MethodId} {below : List Frame} {meth : Method} {c : Code} {D : va_G} {dA : Nat → ClassId} {zz : (Nat → Nat) × (Nat → Nat)} {bs b L : Nat} {xs : Nat → Int32} {Q : State → Prop} {CE SL j : Nat} (X : Cx p m meth c cL_law 4 s #[.ref b] RL D dA zz bs) (hX : va_X b L xs s s.heap) (hbl : b < s.heap.size) (hbA : ¬ Aq bs b) (hj : j + 6 ≤ L) (hL : L ≤ 3072) (hce : CE ≤ room_1.cells ∧ SL ≤ room_1.slots) (I : Mm → Prop) (hs : sm_plan I) {mm : Mm} (hI : I mm) {H : Heap} {locs : List Loc} {ls : Array Slot} (hP : Wd D dA bs LY mm H) (hS : va_S (Aq bs) s.heap H locs) (hl : lv_has ls 4 [(0, .ref b), (1, .ref (bs + 0)), (2, .ref (bs + 1088)), (3, .int (nI j))])
    (kk : ∀ (m' : Mm) (H : Heap) (locs : List Loc), I m' → Wd D dA bs LY m' H → va_S (Aq bs) s.heap H locs → W p l e room_1 s m #[.ref b] below meth c H locs CE SL Q (F0 m 1092 ls [])) : W p l e room_1 s m #[.ref b] below meth c H locs CE SL Q (F0 m 713 ls []) := by
  obtain ⟨r, m1, m2, h1, h2, hI⟩ := hs mm (xs (nI j + 1).toNatClampNeg) hI
  have hx := X.1
  have hb := X.2.1
  refine lv_aload_n hx hb dL_law_713 rfl (lv_at hl 1 rfl) ?_
  refine lv_aload_n hx hb dL_law_714 rfl (lv_at hl 0 rfl) ?_
  refine lv_iload_n hx hb dL_law_715 rfl (lv_at hl 3 rfl) ?_
  refine lv_iconst (v := 1) hx hb dL_law_716 (by decide) ?_
  refine lv_iadd hx hb dL_law_717 ?_
  refine va_sld hx hb hX hbl hbA hS (ix1 hj hL) dL_law_718 ?_
  refine wd_cv X hP hS L0 ml_L_94 ⟨_, _, rfl⟩ (c_X11_plan l D dA zz bs mm (xs (nI j + 1).toNatClampNeg) r m1 h1) rfl ⟨Nat.le_of_ble_eq_true rfl, Nat.le_of_ble_eq_true rfl⟩ hl.1 rfl (rest := []) (Nat.le_of_ble_eq_true rfl) hce dL_law_719 (fun H locs hP hS => ?_)
  refine W.eq (g2 := F0 m 722 ls [.int r]) rfl ?_
  refine lv_aload_n hx hb dL_law_722 rfl (lv_at hl 2 rfl) ?_
  refine lv_aload_n hx hb dL_law_723 rfl (lv_at hl 0 rfl) ?_
  refine lv_iload_n hx hb dL_law_724 rfl (lv_at hl 3 rfl) ?_
  refine lv_iconst (v := 1) hx hb dL_law_725 (by decide) ?_
  refine lv_iadd hx hb dL_law_726 ?_
  refine va_sld hx hb hX hbl hbA hS (ix1 hj hL) dL_law_727 ?_
  refine wd_cv X hP hS L1088 ml_L_97 ⟨_, _, rfl⟩ (c_X12_plan l D dA zz bs m1 (xs (nI j + 1).toNatClampNeg) r m2 h2) rfl ⟨Nat.le_of_ble_eq_true rfl, Nat.le_of_ble_eq_true rfl⟩ hl.1 rfl (rest := [.int r]) (Nat.le_of_ble_eq_true rfl) hce dL_law_728 (fun H locs hP hS => ?_)
  refine W.eq (g2 := F0 m 731 ls [.int r, .int r]) rfl ?_
  refine lv_icmp_eq (tgt := 1092) hx hb dL_law_731 (by decide) (fun _ => ?_) (fun c_ => absurd rfl c_)
  exact kk m2 H locs hI hP hS
set_option maxRecDepth 100000 in
set_option maxHeartbeats 4000000 in
theorem lc_sawn {p : Program} {l : Launch} {e : Env} {s : State} {m : MethodId} {below : List Frame} {meth : Method} {c : Code} {D : va_G} {dA : Nat → ClassId} {zz : (Nat → Nat) × (Nat → Nat)} {bs b L : Nat} {xs : Nat → Int32} {Q : State → Prop} {CE SL j : Nat} (X : Cx p m meth c cL_law 4 s #[.ref b] RL D dA zz bs) (hX : va_X b L xs s s.heap) (hbl : b < s.heap.size) (hbA : ¬ Aq bs b) (hj : j + 6 ≤ L) (hL : L ≤ 3072) (hce : CE ≤ room_1.cells ∧ SL ≤ room_1.slots) (I : Mm → Prop) (hs : sm_sawn I) {mm : Mm} (hI : I mm) {H : Heap} {locs : List Loc} {ls : Array Slot} (hP : Wd D dA bs LY mm H) (hS : va_S (Aq bs) s.heap H locs) (hl : lv_has ls 4 [(0, .ref b), (1, .ref (bs + 0)), (2, .ref (bs + 1088)), (3, .int (nI j))])
    (kk : ∀ (m' : Mm) (H : Heap) (locs : List Loc), I m' → Wd D dA bs LY m' H → va_S (Aq bs) s.heap H locs → W p l e room_1 s m #[.ref b] below meth c H locs CE SL Q (F0 m 1092 ls [])) : W p l e room_1 s m #[.ref b] below meth c H locs CE SL Q (F0 m 736 ls []) := by
  obtain ⟨r, m1, h1, h2, hI⟩ := hs mm (xs (nI j + 1).toNatClampNeg) (xs (nI j + 2).toNatClampNeg) hI
  have hx := X.1
  have hb := X.2.1
  refine lv_aload_n hx hb dL_law_736 rfl (lv_at hl 1 rfl) ?_
  refine lv_aload_n hx hb dL_law_737 rfl (lv_at hl 0 rfl) ?_
  refine lv_iload_n hx hb dL_law_738 rfl (lv_at hl 3 rfl) ?_
  refine lv_iconst (v := 1) hx hb dL_law_739 (by decide) ?_
  refine lv_iadd hx hb dL_law_740 ?_
  refine va_sld hx hb hX hbl hbA hS (ix1 hj hL) dL_law_741 ?_
  refine lv_aload_n hx hb dL_law_742 rfl (lv_at hl 0 rfl) ?_
  refine lv_iload_n hx hb dL_law_743 rfl (lv_at hl 3 rfl) ?_
  refine lv_iconst (v := 2) hx hb dL_law_744 (by decide) ?_
  refine lv_iadd hx hb dL_law_745 ?_
  refine va_sld hx hb hX hbl hbA hS (ix2 hj hL) dL_law_746 ?_
  refine wd_cv X hP hS L0 ml_L_98 ⟨_, _, rfl⟩ (c_X11_sawn l D dA zz bs mm (xs (nI j + 1).toNatClampNeg) (xs (nI j + 2).toNatClampNeg) r m1 h1) rfl ⟨Nat.le_of_ble_eq_true rfl, Nat.le_of_ble_eq_true rfl⟩ hl.1 rfl (rest := []) (Nat.le_of_ble_eq_true rfl) hce dL_law_747 (fun H locs hP hS => ?_)
  refine W.eq (g2 := F0 m 750 ls [.int r]) rfl ?_
  refine lv_aload_n hx hb dL_law_750 rfl (lv_at hl 2 rfl) ?_
  refine lv_aload_n hx hb dL_law_751 rfl (lv_at hl 0 rfl) ?_
  refine lv_iload_n hx hb dL_law_752 rfl (lv_at hl 3 rfl) ?_
  refine lv_iconst (v := 1) hx hb dL_law_753 (by decide) ?_
  refine lv_iadd hx hb dL_law_754 ?_
  refine va_sld hx hb hX hbl hbA hS (ix1 hj hL) dL_law_755 ?_
  refine lv_aload_n hx hb dL_law_756 rfl (lv_at hl 0 rfl) ?_
  refine lv_iload_n hx hb dL_law_757 rfl (lv_at hl 3 rfl) ?_
  refine lv_iconst (v := 2) hx hb dL_law_758 (by decide) ?_
  refine lv_iadd hx hb dL_law_759 ?_
  refine va_sld hx hb hX hbl hbA hS (ix2 hj hL) dL_law_760 ?_
  refine wd_cv X hP hS L1088 ml_L_101 ⟨_, _, rfl⟩ (c_X12_sawn l D dA zz bs m1 (xs (nI j + 1).toNatClampNeg) (xs (nI j + 2).toNatClampNeg) r h2) rfl ⟨Nat.le_of_ble_eq_true rfl, Nat.le_of_ble_eq_true rfl⟩ hl.1 rfl (rest := [.int r]) (Nat.le_of_ble_eq_true rfl) hce dL_law_761 (fun H locs hP hS => ?_)
  refine W.eq (g2 := F0 m 764 ls [.int r, .int r]) rfl ?_
  refine lv_icmp_eq (tgt := 1092) hx hb dL_law_764 (by decide) (fun _ => ?_) (fun c_ => absurd rfl c_)
  exact kk m1 H locs hI hP hS
set_option maxRecDepth 100000 in
set_option maxHeartbeats 4000000 in
theorem lc_locks {p : Program} {l : Launch} {e : Env} {s : State} {m : MethodId} {below : List Frame} {meth : Method} {c : Code} {D : va_G} {dA : Nat → ClassId} {zz : (Nat → Nat) × (Nat → Nat)} {bs b L : Nat} {xs : Nat → Int32} {Q : State → Prop} {CE SL j : Nat} (X : Cx p m meth c cL_law 4 s #[.ref b] RL D dA zz bs) (hX : va_X b L xs s s.heap) (hbl : b < s.heap.size) (hbA : ¬ Aq bs b) (hj : j + 6 ≤ L) (hL : L ≤ 3072) (hce : CE ≤ room_1.cells ∧ SL ≤ room_1.slots) (I : Mm → Prop) (hs : sm_locks I) {mm : Mm} (hI : I mm) {H : Heap} {locs : List Loc} {ls : Array Slot} (hP : Wd D dA bs LY mm H) (hS : va_S (Aq bs) s.heap H locs) (hl : lv_has ls 4 [(0, .ref b), (1, .ref (bs + 0)), (2, .ref (bs + 1088)), (3, .int (nI j))])
    (kk : ∀ (m' : Mm) (H : Heap) (locs : List Loc), I m' → Wd D dA bs LY m' H → va_S (Aq bs) s.heap H locs → W p l e room_1 s m #[.ref b] below meth c H locs CE SL Q (F0 m 1092 ls [])) : W p l e room_1 s m #[.ref b] below meth c H locs CE SL Q (F0 m 769 ls []) := by
  obtain ⟨r, m1, m2, h1, h2, hI⟩ := hs mm (xs (nI j + 1).toNatClampNeg) (xs (nI j + 2).toNatClampNeg) hI
  have hx := X.1
  have hb := X.2.1
  refine lv_aload_n hx hb dL_law_769 rfl (lv_at hl 1 rfl) ?_
  refine lv_aload_n hx hb dL_law_770 rfl (lv_at hl 0 rfl) ?_
  refine lv_iload_n hx hb dL_law_771 rfl (lv_at hl 3 rfl) ?_
  refine lv_iconst (v := 1) hx hb dL_law_772 (by decide) ?_
  refine lv_iadd hx hb dL_law_773 ?_
  refine va_sld hx hb hX hbl hbA hS (ix1 hj hL) dL_law_774 ?_
  refine lv_aload_n hx hb dL_law_775 rfl (lv_at hl 0 rfl) ?_
  refine lv_iload_n hx hb dL_law_776 rfl (lv_at hl 3 rfl) ?_
  refine lv_iconst (v := 2) hx hb dL_law_777 (by decide) ?_
  refine lv_iadd hx hb dL_law_778 ?_
  refine va_sld hx hb hX hbl hbA hS (ix2 hj hL) dL_law_779 ?_
  refine wd_cv X hP hS L0 ml_L_102 ⟨_, _, rfl⟩ (c_X11_locks l D dA zz bs mm (xs (nI j + 1).toNatClampNeg) (xs (nI j + 2).toNatClampNeg) r m1 h1) rfl ⟨Nat.le_of_ble_eq_true rfl, Nat.le_of_ble_eq_true rfl⟩ hl.1 rfl (rest := []) (Nat.le_of_ble_eq_true rfl) hce dL_law_780 (fun H locs hP hS => ?_)
  refine W.eq (g2 := F0 m 783 ls [.int r]) rfl ?_
  refine lv_aload_n hx hb dL_law_783 rfl (lv_at hl 2 rfl) ?_
  refine lv_aload_n hx hb dL_law_784 rfl (lv_at hl 0 rfl) ?_
  refine lv_iload_n hx hb dL_law_785 rfl (lv_at hl 3 rfl) ?_
  refine lv_iconst (v := 1) hx hb dL_law_786 (by decide) ?_
  refine lv_iadd hx hb dL_law_787 ?_
  refine va_sld hx hb hX hbl hbA hS (ix1 hj hL) dL_law_788 ?_
  refine lv_aload_n hx hb dL_law_789 rfl (lv_at hl 0 rfl) ?_
  refine lv_iload_n hx hb dL_law_790 rfl (lv_at hl 3 rfl) ?_
  refine lv_iconst (v := 2) hx hb dL_law_791 (by decide) ?_
  refine lv_iadd hx hb dL_law_792 ?_
  refine va_sld hx hb hX hbl hbA hS (ix2 hj hL) dL_law_793 ?_
  refine wd_cv X hP hS L1088 ml_L_105 ⟨_, _, rfl⟩ (c_X12_locks l D dA zz bs m1 (xs (nI j + 1).toNatClampNeg) (xs (nI j + 2).toNatClampNeg) r m2 h2) rfl ⟨Nat.le_of_ble_eq_true rfl, Nat.le_of_ble_eq_true rfl⟩ hl.1 rfl (rest := [.int r]) (Nat.le_of_ble_eq_true rfl) hce dL_law_794 (fun H locs hP hS => ?_)
  refine W.eq (g2 := F0 m 797 ls [.int r, .int r]) rfl ?_
  refine lv_icmp_eq (tgt := 1092) hx hb dL_law_797 (by decide) (fun _ => ?_) (fun c_ => absurd rfl c_)
  exact kk m2 H locs hI hP hS
set_option maxRecDepth 100000 in
set_option maxHeartbeats 4000000 in
theorem lc_delta {p : Program} {l : Launch} {e : Env} {s : State} {m : MethodId} {below : List Frame} {meth : Method} {c : Code} {D : va_G} {dA : Nat → ClassId} {zz : (Nat → Nat) × (Nat → Nat)} {bs b L : Nat} {xs : Nat → Int32} {Q : State → Prop} {CE SL j : Nat} (X : Cx p m meth c cL_law 4 s #[.ref b] RL D dA zz bs) (hX : va_X b L xs s s.heap) (hbl : b < s.heap.size) (hbA : ¬ Aq bs b) (hj : j + 6 ≤ L) (hL : L ≤ 3072) (hce : CE ≤ room_1.cells ∧ SL ≤ room_1.slots) (I : Mm → Prop) (hs : sm_delta I) {mm : Mm} (hI : I mm) {H : Heap} {locs : List Loc} {ls : Array Slot} (hP : Wd D dA bs LY mm H) (hS : va_S (Aq bs) s.heap H locs) (hl : lv_has ls 4 [(0, .ref b), (1, .ref (bs + 0)), (2, .ref (bs + 1088)), (3, .int (nI j))])
    (kk : ∀ (m' : Mm) (H : Heap) (locs : List Loc), I m' → Wd D dA bs LY m' H → va_S (Aq bs) s.heap H locs → W p l e room_1 s m #[.ref b] below meth c H locs CE SL Q (F0 m 1092 ls [])) : W p l e room_1 s m #[.ref b] below meth c H locs CE SL Q (F0 m 802 ls []) := by
  obtain ⟨r, m1, m2, h1, h2, hI⟩ := hs mm (xs (nI j + 1).toNatClampNeg) hI
  have hx := X.1
  have hb := X.2.1
  refine lv_aload_n hx hb dL_law_802 rfl (lv_at hl 1 rfl) ?_
  refine lv_aload_n hx hb dL_law_803 rfl (lv_at hl 0 rfl) ?_
  refine lv_iload_n hx hb dL_law_804 rfl (lv_at hl 3 rfl) ?_
  refine lv_iconst (v := 1) hx hb dL_law_805 (by decide) ?_
  refine lv_iadd hx hb dL_law_806 ?_
  refine va_sld hx hb hX hbl hbA hS (ix1 hj hL) dL_law_807 ?_
  refine wd_cv X hP hS L0 ml_L_106 ⟨_, _, rfl⟩ (c_X11_delta l D dA zz bs mm (xs (nI j + 1).toNatClampNeg) r m1 h1) rfl ⟨Nat.le_of_ble_eq_true rfl, Nat.le_of_ble_eq_true rfl⟩ hl.1 rfl (rest := []) (Nat.le_of_ble_eq_true rfl) hce dL_law_808 (fun H locs hP hS => ?_)
  refine W.eq (g2 := F0 m 811 ls [.int r]) rfl ?_
  refine lv_aload_n hx hb dL_law_811 rfl (lv_at hl 2 rfl) ?_
  refine lv_aload_n hx hb dL_law_812 rfl (lv_at hl 0 rfl) ?_
  refine lv_iload_n hx hb dL_law_813 rfl (lv_at hl 3 rfl) ?_
  refine lv_iconst (v := 1) hx hb dL_law_814 (by decide) ?_
  refine lv_iadd hx hb dL_law_815 ?_
  refine va_sld hx hb hX hbl hbA hS (ix1 hj hL) dL_law_816 ?_
  refine wd_cv X hP hS L1088 ml_L_109 ⟨_, _, rfl⟩ (c_X12_delta l D dA zz bs m1 (xs (nI j + 1).toNatClampNeg) r m2 h2) rfl ⟨Nat.le_of_ble_eq_true rfl, Nat.le_of_ble_eq_true rfl⟩ hl.1 rfl (rest := [.int r]) (Nat.le_of_ble_eq_true rfl) hce dL_law_817 (fun H locs hP hS => ?_)
  refine W.eq (g2 := F0 m 820 ls [.int r, .int r]) rfl ?_
  refine lv_icmp_eq (tgt := 1092) hx hb dL_law_820 (by decide) (fun _ => ?_) (fun c_ => absurd rfl c_)
  exact kk m2 H locs hI hP hS
set_option maxRecDepth 100000 in
set_option maxHeartbeats 4000000 in
theorem lc_weak {p : Program} {l : Launch} {e : Env} {s : State} {m : MethodId} {below : List Frame} {meth : Method} {c : Code} {D : va_G} {dA : Nat → ClassId} {zz : (Nat → Nat) × (Nat → Nat)} {bs b L : Nat} {xs : Nat → Int32} {Q : State → Prop} {CE SL j : Nat} (X : Cx p m meth c cL_law 4 s #[.ref b] RL D dA zz bs) (hX : va_X b L xs s s.heap) (hbl : b < s.heap.size) (hbA : ¬ Aq bs b) (hj : j + 6 ≤ L) (hL : L ≤ 3072) (hce : CE ≤ room_1.cells ∧ SL ≤ room_1.slots) (I : Mm → Prop) (hs : sm_weak I) {mm : Mm} (hI : I mm) {H : Heap} {locs : List Loc} {ls : Array Slot} (hP : Wd D dA bs LY mm H) (hS : va_S (Aq bs) s.heap H locs) (hl : lv_has ls 4 [(0, .ref b), (1, .ref (bs + 0)), (2, .ref (bs + 1088)), (3, .int (nI j))])
    (kk : ∀ (m' : Mm) (H : Heap) (locs : List Loc), I m' → Wd D dA bs LY m' H → va_S (Aq bs) s.heap H locs → W p l e room_1 s m #[.ref b] below meth c H locs CE SL Q (F0 m 1092 ls [])) : W p l e room_1 s m #[.ref b] below meth c H locs CE SL Q (F0 m 825 ls []) := by
  obtain ⟨r, m1, h1, h2, hI⟩ := hs mm (xs (nI j + 1).toNatClampNeg) hI
  have hx := X.1
  have hb := X.2.1
  refine lv_aload_n hx hb dL_law_825 rfl (lv_at hl 1 rfl) ?_
  refine lv_aload_n hx hb dL_law_826 rfl (lv_at hl 0 rfl) ?_
  refine lv_iload_n hx hb dL_law_827 rfl (lv_at hl 3 rfl) ?_
  refine lv_iconst (v := 1) hx hb dL_law_828 (by decide) ?_
  refine lv_iadd hx hb dL_law_829 ?_
  refine va_sld hx hb hX hbl hbA hS (ix1 hj hL) dL_law_830 ?_
  refine wd_cv X hP hS L0 ml_L_110 ⟨_, _, rfl⟩ (c_X11_weak l D dA zz bs mm (xs (nI j + 1).toNatClampNeg) r m1 h1) rfl ⟨Nat.le_of_ble_eq_true rfl, Nat.le_of_ble_eq_true rfl⟩ hl.1 rfl (rest := []) (Nat.le_of_ble_eq_true rfl) hce dL_law_831 (fun H locs hP hS => ?_)
  refine W.eq (g2 := F0 m 834 ls [.int r]) rfl ?_
  refine lv_aload_n hx hb dL_law_834 rfl (lv_at hl 2 rfl) ?_
  refine lv_aload_n hx hb dL_law_835 rfl (lv_at hl 0 rfl) ?_
  refine lv_iload_n hx hb dL_law_836 rfl (lv_at hl 3 rfl) ?_
  refine lv_iconst (v := 1) hx hb dL_law_837 (by decide) ?_
  refine lv_iadd hx hb dL_law_838 ?_
  refine va_sld hx hb hX hbl hbA hS (ix1 hj hL) dL_law_839 ?_
  refine wd_cv X hP hS L1088 ml_L_113 ⟨_, _, rfl⟩ (c_X12_weak l D dA zz bs m1 (xs (nI j + 1).toNatClampNeg) r h2) rfl ⟨Nat.le_of_ble_eq_true rfl, Nat.le_of_ble_eq_true rfl⟩ hl.1 rfl (rest := [.int r]) (Nat.le_of_ble_eq_true rfl) hce dL_law_840 (fun H locs hP hS => ?_)
  refine W.eq (g2 := F0 m 843 ls [.int r, .int r]) rfl ?_
  refine lv_icmp_eq (tgt := 1092) hx hb dL_law_843 (by decide) (fun _ => ?_) (fun c_ => absurd rfl c_)
  exact kk m1 H locs hI hP hS
set_option maxRecDepth 100000 in
set_option maxHeartbeats 4000000 in
theorem lc_offer {p : Program} {l : Launch} {e : Env} {s : State} {m : MethodId} {below : List Frame} {meth : Method} {c : Code} {D : va_G} {dA : Nat → ClassId} {zz : (Nat → Nat) × (Nat → Nat)} {bs b L : Nat} {xs : Nat → Int32} {Q : State → Prop} {CE SL j : Nat} (X : Cx p m meth c cL_law 4 s #[.ref b] RL D dA zz bs) (hX : va_X b L xs s s.heap) (hbl : b < s.heap.size) (hbA : ¬ Aq bs b) (hj : j + 6 ≤ L) (hL : L ≤ 3072) (hce : CE ≤ room_1.cells ∧ SL ≤ room_1.slots) (I : Mm → Prop) (hs : sm_offer I) {mm : Mm} (hI : I mm) {H : Heap} {locs : List Loc} {ls : Array Slot} (hP : Wd D dA bs LY mm H) (hS : va_S (Aq bs) s.heap H locs) (hl : lv_has ls 4 [(0, .ref b), (1, .ref (bs + 0)), (2, .ref (bs + 1088)), (3, .int (nI j))])
    (kk : ∀ (m' : Mm) (H : Heap) (locs : List Loc), I m' → Wd D dA bs LY m' H → va_S (Aq bs) s.heap H locs → W p l e room_1 s m #[.ref b] below meth c H locs CE SL Q (F0 m 1092 ls [])) : W p l e room_1 s m #[.ref b] below meth c H locs CE SL Q (F0 m 848 ls []) := by
  obtain ⟨r, m1, m2, h1, h2, hI⟩ := hs mm (xs (nI j + 1).toNatClampNeg) (xs (nI j + 2).toNatClampNeg) (xs (nI j + 3).toNatClampNeg) hI
  have hx := X.1
  have hb := X.2.1
  refine lv_aload_n hx hb dL_law_848 rfl (lv_at hl 1 rfl) ?_
  refine lv_aload_n hx hb dL_law_849 rfl (lv_at hl 0 rfl) ?_
  refine lv_iload_n hx hb dL_law_850 rfl (lv_at hl 3 rfl) ?_
  refine lv_iconst (v := 1) hx hb dL_law_851 (by decide) ?_
  refine lv_iadd hx hb dL_law_852 ?_
  refine va_sld hx hb hX hbl hbA hS (ix1 hj hL) dL_law_853 ?_
  refine lv_aload_n hx hb dL_law_854 rfl (lv_at hl 0 rfl) ?_
  refine lv_iload_n hx hb dL_law_855 rfl (lv_at hl 3 rfl) ?_
  refine lv_iconst (v := 2) hx hb dL_law_856 (by decide) ?_
  refine lv_iadd hx hb dL_law_857 ?_
  refine va_sld hx hb hX hbl hbA hS (ix2 hj hL) dL_law_858 ?_
  refine lv_aload_n hx hb dL_law_859 rfl (lv_at hl 0 rfl) ?_
  refine lv_iload_n hx hb dL_law_860 rfl (lv_at hl 3 rfl) ?_
  refine lv_iconst (v := 3) hx hb dL_law_861 (by decide) ?_
  refine lv_iadd hx hb dL_law_862 ?_
  refine va_sld hx hb hX hbl hbA hS (ix3 hj hL) dL_law_863 ?_
  refine wd_cv X hP hS L0 ml_L_114 ⟨_, _, rfl⟩ (c_X11_offer l D dA zz bs mm (xs (nI j + 1).toNatClampNeg) (xs (nI j + 2).toNatClampNeg) (xs (nI j + 3).toNatClampNeg) r m1 h1) rfl ⟨Nat.le_of_ble_eq_true rfl, Nat.le_of_ble_eq_true rfl⟩ hl.1 rfl (rest := []) (Nat.le_of_ble_eq_true rfl) hce dL_law_864 (fun H locs hP hS => ?_)
  refine W.eq (g2 := F0 m 867 ls [.int r]) rfl ?_
  refine lv_aload_n hx hb dL_law_867 rfl (lv_at hl 2 rfl) ?_
  refine lv_aload_n hx hb dL_law_868 rfl (lv_at hl 0 rfl) ?_
  refine lv_iload_n hx hb dL_law_869 rfl (lv_at hl 3 rfl) ?_
  refine lv_iconst (v := 1) hx hb dL_law_870 (by decide) ?_
  refine lv_iadd hx hb dL_law_871 ?_
  refine va_sld hx hb hX hbl hbA hS (ix1 hj hL) dL_law_872 ?_
  refine lv_aload_n hx hb dL_law_873 rfl (lv_at hl 0 rfl) ?_
  refine lv_iload_n hx hb dL_law_874 rfl (lv_at hl 3 rfl) ?_
  refine lv_iconst (v := 2) hx hb dL_law_875 (by decide) ?_
  refine lv_iadd hx hb dL_law_876 ?_
  refine va_sld hx hb hX hbl hbA hS (ix2 hj hL) dL_law_877 ?_
  refine lv_aload_n hx hb dL_law_878 rfl (lv_at hl 0 rfl) ?_
  refine lv_iload_n hx hb dL_law_879 rfl (lv_at hl 3 rfl) ?_
  refine lv_iconst (v := 3) hx hb dL_law_880 (by decide) ?_
  refine lv_iadd hx hb dL_law_881 ?_
  refine va_sld hx hb hX hbl hbA hS (ix3 hj hL) dL_law_882 ?_
  refine wd_cv X hP hS L1088 ml_L_117 ⟨_, _, rfl⟩ (c_X12_offer l D dA zz bs m1 (xs (nI j + 1).toNatClampNeg) (xs (nI j + 2).toNatClampNeg) (xs (nI j + 3).toNatClampNeg) r m2 h2) rfl ⟨Nat.le_of_ble_eq_true rfl, Nat.le_of_ble_eq_true rfl⟩ hl.1 rfl (rest := [.int r]) (Nat.le_of_ble_eq_true rfl) hce dL_law_883 (fun H locs hP hS => ?_)
  refine W.eq (g2 := F0 m 886 ls [.int r, .int r]) rfl ?_
  refine lv_icmp_eq (tgt := 1092) hx hb dL_law_886 (by decide) (fun _ => ?_) (fun c_ => absurd rfl c_)
  exact kk m2 H locs hI hP hS
set_option maxRecDepth 100000 in
set_option maxHeartbeats 4000000 in
theorem lc_take {p : Program} {l : Launch} {e : Env} {s : State} {m : MethodId} {below : List Frame} {meth : Method} {c : Code} {D : va_G} {dA : Nat → ClassId} {zz : (Nat → Nat) × (Nat → Nat)} {bs b L : Nat} {xs : Nat → Int32} {Q : State → Prop} {CE SL j : Nat} (X : Cx p m meth c cL_law 4 s #[.ref b] RL D dA zz bs) (hX : va_X b L xs s s.heap) (hbl : b < s.heap.size) (hbA : ¬ Aq bs b) (hj : j + 6 ≤ L) (hL : L ≤ 3072) (hce : CE ≤ room_1.cells ∧ SL ≤ room_1.slots) (I : Mm → Prop) (hs : sm_take I) {mm : Mm} (hI : I mm) {H : Heap} {locs : List Loc} {ls : Array Slot} (hP : Wd D dA bs LY mm H) (hS : va_S (Aq bs) s.heap H locs) (hl : lv_has ls 4 [(0, .ref b), (1, .ref (bs + 0)), (2, .ref (bs + 1088)), (3, .int (nI j))])
    (kk : ∀ (m' : Mm) (H : Heap) (locs : List Loc), I m' → Wd D dA bs LY m' H → va_S (Aq bs) s.heap H locs → W p l e room_1 s m #[.ref b] below meth c H locs CE SL Q (F0 m 1092 ls [])) : W p l e room_1 s m #[.ref b] below meth c H locs CE SL Q (F0 m 891 ls []) := by
  obtain ⟨r, m1, h1, h2, hI⟩ := hs mm (xs (nI j + 1).toNatClampNeg) (xs (nI j + 2).toNatClampNeg) hI
  have hx := X.1
  have hb := X.2.1
  refine lv_aload_n hx hb dL_law_891 rfl (lv_at hl 1 rfl) ?_
  refine lv_aload_n hx hb dL_law_892 rfl (lv_at hl 0 rfl) ?_
  refine lv_iload_n hx hb dL_law_893 rfl (lv_at hl 3 rfl) ?_
  refine lv_iconst (v := 1) hx hb dL_law_894 (by decide) ?_
  refine lv_iadd hx hb dL_law_895 ?_
  refine va_sld hx hb hX hbl hbA hS (ix1 hj hL) dL_law_896 ?_
  refine lv_aload_n hx hb dL_law_897 rfl (lv_at hl 0 rfl) ?_
  refine lv_iload_n hx hb dL_law_898 rfl (lv_at hl 3 rfl) ?_
  refine lv_iconst (v := 2) hx hb dL_law_899 (by decide) ?_
  refine lv_iadd hx hb dL_law_900 ?_
  refine va_sld hx hb hX hbl hbA hS (ix2 hj hL) dL_law_901 ?_
  refine wd_cv X hP hS L0 ml_L_118 ⟨_, _, rfl⟩ (c_X11_take l D dA zz bs mm (xs (nI j + 1).toNatClampNeg) (xs (nI j + 2).toNatClampNeg) r m1 h1) rfl ⟨Nat.le_of_ble_eq_true rfl, Nat.le_of_ble_eq_true rfl⟩ hl.1 rfl (rest := []) (Nat.le_of_ble_eq_true rfl) hce dL_law_902 (fun H locs hP hS => ?_)
  refine W.eq (g2 := F0 m 905 ls [.int r]) rfl ?_
  refine lv_aload_n hx hb dL_law_905 rfl (lv_at hl 2 rfl) ?_
  refine lv_aload_n hx hb dL_law_906 rfl (lv_at hl 0 rfl) ?_
  refine lv_iload_n hx hb dL_law_907 rfl (lv_at hl 3 rfl) ?_
  refine lv_iconst (v := 1) hx hb dL_law_908 (by decide) ?_
  refine lv_iadd hx hb dL_law_909 ?_
  refine va_sld hx hb hX hbl hbA hS (ix1 hj hL) dL_law_910 ?_
  refine lv_aload_n hx hb dL_law_911 rfl (lv_at hl 0 rfl) ?_
  refine lv_iload_n hx hb dL_law_912 rfl (lv_at hl 3 rfl) ?_
  refine lv_iconst (v := 2) hx hb dL_law_913 (by decide) ?_
  refine lv_iadd hx hb dL_law_914 ?_
  refine va_sld hx hb hX hbl hbA hS (ix2 hj hL) dL_law_915 ?_
  refine wd_cv X hP hS L1088 ml_L_121 ⟨_, _, rfl⟩ (c_X12_take l D dA zz bs m1 (xs (nI j + 1).toNatClampNeg) (xs (nI j + 2).toNatClampNeg) r h2) rfl ⟨Nat.le_of_ble_eq_true rfl, Nat.le_of_ble_eq_true rfl⟩ hl.1 rfl (rest := [.int r]) (Nat.le_of_ble_eq_true rfl) hce dL_law_916 (fun H locs hP hS => ?_)
  refine W.eq (g2 := F0 m 919 ls [.int r, .int r]) rfl ?_
  refine lv_icmp_eq (tgt := 1092) hx hb dL_law_919 (by decide) (fun _ => ?_) (fun c_ => absurd rfl c_)
  exact kk m1 H locs hI hP hS
set_option maxRecDepth 100000 in
set_option maxHeartbeats 4000000 in
theorem lc_game {p : Program} {l : Launch} {e : Env} {s : State} {m : MethodId} {below : List Frame} {meth : Method} {c : Code} {D : va_G} {dA : Nat → ClassId} {zz : (Nat → Nat) × (Nat → Nat)} {bs b L : Nat} {xs : Nat → Int32} {Q : State → Prop} {CE SL j : Nat} (X : Cx p m meth c cL_law 4 s #[.ref b] RL D dA zz bs) (hX : va_X b L xs s s.heap) (hbl : b < s.heap.size) (hbA : ¬ Aq bs b) (hj : j + 6 ≤ L) (hL : L ≤ 3072) (hce : CE ≤ room_1.cells ∧ SL ≤ room_1.slots) (I : Mm → Prop) (hs : sm_game I) {mm : Mm} (hI : I mm) {H : Heap} {locs : List Loc} {ls : Array Slot} (hP : Wd D dA bs LY mm H) (hS : va_S (Aq bs) s.heap H locs) (hl : lv_has ls 4 [(0, .ref b), (1, .ref (bs + 0)), (2, .ref (bs + 1088)), (3, .int (nI j))])
    (kk : ∀ (m' : Mm) (H : Heap) (locs : List Loc), I m' → Wd D dA bs LY m' H → va_S (Aq bs) s.heap H locs → W p l e room_1 s m #[.ref b] below meth c H locs CE SL Q (F0 m 1092 ls [])) : W p l e room_1 s m #[.ref b] below meth c H locs CE SL Q (F0 m 924 ls []) := by
  obtain ⟨r, m1, m2, h1, h2, hI⟩ := hs mm (xs (nI j + 1).toNatClampNeg) (xs (nI j + 2).toNatClampNeg) hI
  have hx := X.1
  have hb := X.2.1
  refine lv_aload_n hx hb dL_law_924 rfl (lv_at hl 1 rfl) ?_
  refine lv_aload_n hx hb dL_law_925 rfl (lv_at hl 0 rfl) ?_
  refine lv_iload_n hx hb dL_law_926 rfl (lv_at hl 3 rfl) ?_
  refine lv_iconst (v := 1) hx hb dL_law_927 (by decide) ?_
  refine lv_iadd hx hb dL_law_928 ?_
  refine va_sld hx hb hX hbl hbA hS (ix1 hj hL) dL_law_929 ?_
  refine lv_aload_n hx hb dL_law_930 rfl (lv_at hl 0 rfl) ?_
  refine lv_iload_n hx hb dL_law_931 rfl (lv_at hl 3 rfl) ?_
  refine lv_iconst (v := 2) hx hb dL_law_932 (by decide) ?_
  refine lv_iadd hx hb dL_law_933 ?_
  refine va_sld hx hb hX hbl hbA hS (ix2 hj hL) dL_law_934 ?_
  refine wd_cv X hP hS L0 ml_L_122 ⟨_, _, rfl⟩ (c_X11_game l D dA zz bs mm (xs (nI j + 1).toNatClampNeg) (xs (nI j + 2).toNatClampNeg) r m1 h1) rfl ⟨Nat.le_of_ble_eq_true rfl, Nat.le_of_ble_eq_true rfl⟩ hl.1 rfl (rest := []) (Nat.le_of_ble_eq_true rfl) hce dL_law_935 (fun H locs hP hS => ?_)
  refine W.eq (g2 := F0 m 938 ls [.int r]) rfl ?_
  refine lv_aload_n hx hb dL_law_938 rfl (lv_at hl 2 rfl) ?_
  refine lv_aload_n hx hb dL_law_939 rfl (lv_at hl 0 rfl) ?_
  refine lv_iload_n hx hb dL_law_940 rfl (lv_at hl 3 rfl) ?_
  refine lv_iconst (v := 1) hx hb dL_law_941 (by decide) ?_
  refine lv_iadd hx hb dL_law_942 ?_
  refine va_sld hx hb hX hbl hbA hS (ix1 hj hL) dL_law_943 ?_
  refine lv_aload_n hx hb dL_law_944 rfl (lv_at hl 0 rfl) ?_
  refine lv_iload_n hx hb dL_law_945 rfl (lv_at hl 3 rfl) ?_
  refine lv_iconst (v := 2) hx hb dL_law_946 (by decide) ?_
  refine lv_iadd hx hb dL_law_947 ?_
  refine va_sld hx hb hX hbl hbA hS (ix2 hj hL) dL_law_948 ?_
  refine wd_cv X hP hS L1088 ml_L_125 ⟨_, _, rfl⟩ (c_X12_game l D dA zz bs m1 (xs (nI j + 1).toNatClampNeg) (xs (nI j + 2).toNatClampNeg) r m2 h2) rfl ⟨Nat.le_of_ble_eq_true rfl, Nat.le_of_ble_eq_true rfl⟩ hl.1 rfl (rest := [.int r]) (Nat.le_of_ble_eq_true rfl) hce dL_law_949 (fun H locs hP hS => ?_)
  refine W.eq (g2 := F0 m 952 ls [.int r, .int r]) rfl ?_
  refine lv_icmp_eq (tgt := 1092) hx hb dL_law_952 (by decide) (fun _ => ?_) (fun c_ => absurd rfl c_)
  exact kk m2 H locs hI hP hS
set_option maxRecDepth 100000 in
set_option maxHeartbeats 4000000 in
theorem lc_seed {p : Program} {l : Launch} {e : Env} {s : State} {m : MethodId} {below : List Frame} {meth : Method} {c : Code} {D : va_G} {dA : Nat → ClassId} {zz : (Nat → Nat) × (Nat → Nat)} {bs b L : Nat} {xs : Nat → Int32} {Q : State → Prop} {CE SL j : Nat} (X : Cx p m meth c cL_law 4 s #[.ref b] RL D dA zz bs) (hX : va_X b L xs s s.heap) (hbl : b < s.heap.size) (hbA : ¬ Aq bs b) (hj : j + 6 ≤ L) (hL : L ≤ 3072) (hce : CE ≤ room_1.cells ∧ SL ≤ room_1.slots) (I : Mm → Prop) (hs : sm_seed I) {mm : Mm} (hI : I mm) {H : Heap} {locs : List Loc} {ls : Array Slot} (hP : Wd D dA bs LY mm H) (hS : va_S (Aq bs) s.heap H locs) (hl : lv_has ls 4 [(0, .ref b), (1, .ref (bs + 0)), (2, .ref (bs + 1088)), (3, .int (nI j))])
    (kk : ∀ (m' : Mm) (H : Heap) (locs : List Loc), I m' → Wd D dA bs LY m' H → va_S (Aq bs) s.heap H locs → W p l e room_1 s m #[.ref b] below meth c H locs CE SL Q (F0 m 1092 ls [])) : W p l e room_1 s m #[.ref b] below meth c H locs CE SL Q (F0 m 957 ls []) := by
  obtain ⟨r, m1, m2, h1, h2, hI⟩ := hs mm (xs (nI j + 1).toNatClampNeg) hI
  have hx := X.1
  have hb := X.2.1
  refine lv_aload_n hx hb dL_law_957 rfl (lv_at hl 1 rfl) ?_
  refine lv_aload_n hx hb dL_law_958 rfl (lv_at hl 0 rfl) ?_
  refine lv_iload_n hx hb dL_law_959 rfl (lv_at hl 3 rfl) ?_
  refine lv_iconst (v := 1) hx hb dL_law_960 (by decide) ?_
  refine lv_iadd hx hb dL_law_961 ?_
  refine va_sld hx hb hX hbl hbA hS (ix1 hj hL) dL_law_962 ?_
  refine wd_cv X hP hS L0 ml_L_126 ⟨_, _, rfl⟩ (c_X11_seed l D dA zz bs mm (xs (nI j + 1).toNatClampNeg) r m1 h1) rfl ⟨Nat.le_of_ble_eq_true rfl, Nat.le_of_ble_eq_true rfl⟩ hl.1 rfl (rest := []) (Nat.le_of_ble_eq_true rfl) hce dL_law_963 (fun H locs hP hS => ?_)
  refine W.eq (g2 := F0 m 966 ls [.int r]) rfl ?_
  refine lv_aload_n hx hb dL_law_966 rfl (lv_at hl 2 rfl) ?_
  refine lv_aload_n hx hb dL_law_967 rfl (lv_at hl 0 rfl) ?_
  refine lv_iload_n hx hb dL_law_968 rfl (lv_at hl 3 rfl) ?_
  refine lv_iconst (v := 1) hx hb dL_law_969 (by decide) ?_
  refine lv_iadd hx hb dL_law_970 ?_
  refine va_sld hx hb hX hbl hbA hS (ix1 hj hL) dL_law_971 ?_
  refine wd_cv X hP hS L1088 ml_L_129 ⟨_, _, rfl⟩ (c_X12_seed l D dA zz bs m1 (xs (nI j + 1).toNatClampNeg) r m2 h2) rfl ⟨Nat.le_of_ble_eq_true rfl, Nat.le_of_ble_eq_true rfl⟩ hl.1 rfl (rest := [.int r]) (Nat.le_of_ble_eq_true rfl) hce dL_law_972 (fun H locs hP hS => ?_)
  refine W.eq (g2 := F0 m 975 ls [.int r, .int r]) rfl ?_
  refine lv_icmp_eq (tgt := 1092) hx hb dL_law_975 (by decide) (fun _ => ?_) (fun c_ => absurd rfl c_)
  exact kk m2 H locs hI hP hS
set_option maxRecDepth 100000 in
set_option maxHeartbeats 4000000 in
theorem lc_drawn {p : Program} {l : Launch} {e : Env} {s : State} {m : MethodId} {below : List Frame} {meth : Method} {c : Code} {D : va_G} {dA : Nat → ClassId} {zz : (Nat → Nat) × (Nat → Nat)} {bs b L : Nat} {xs : Nat → Int32} {Q : State → Prop} {CE SL j : Nat} (X : Cx p m meth c cL_law 4 s #[.ref b] RL D dA zz bs) (hX : va_X b L xs s s.heap) (hbl : b < s.heap.size) (hbA : ¬ Aq bs b) (hj : j + 6 ≤ L) (hL : L ≤ 3072) (hce : CE ≤ room_1.cells ∧ SL ≤ room_1.slots) (I : Mm → Prop) (hs : sm_drawn I) {mm : Mm} (hI : I mm) {H : Heap} {locs : List Loc} {ls : Array Slot} (hP : Wd D dA bs LY mm H) (hS : va_S (Aq bs) s.heap H locs) (hl : lv_has ls 4 [(0, .ref b), (1, .ref (bs + 0)), (2, .ref (bs + 1088)), (3, .int (nI j))])
    (kk : ∀ (m' : Mm) (H : Heap) (locs : List Loc), I m' → Wd D dA bs LY m' H → va_S (Aq bs) s.heap H locs → W p l e room_1 s m #[.ref b] below meth c H locs CE SL Q (F0 m 1092 ls [])) : W p l e room_1 s m #[.ref b] below meth c H locs CE SL Q (F0 m 980 ls []) := by
  obtain ⟨r, m1, m2, h1, h2, hI⟩ := hs mm (xs (nI j + 1).toNatClampNeg) (xs (nI j + 2).toNatClampNeg) (xs (nI j + 3).toNatClampNeg) hI
  have hx := X.1
  have hb := X.2.1
  refine lv_aload_n hx hb dL_law_980 rfl (lv_at hl 1 rfl) ?_
  refine lv_aload_n hx hb dL_law_981 rfl (lv_at hl 0 rfl) ?_
  refine lv_iload_n hx hb dL_law_982 rfl (lv_at hl 3 rfl) ?_
  refine lv_iconst (v := 1) hx hb dL_law_983 (by decide) ?_
  refine lv_iadd hx hb dL_law_984 ?_
  refine va_sld hx hb hX hbl hbA hS (ix1 hj hL) dL_law_985 ?_
  refine lv_aload_n hx hb dL_law_986 rfl (lv_at hl 0 rfl) ?_
  refine lv_iload_n hx hb dL_law_987 rfl (lv_at hl 3 rfl) ?_
  refine lv_iconst (v := 2) hx hb dL_law_988 (by decide) ?_
  refine lv_iadd hx hb dL_law_989 ?_
  refine va_sld hx hb hX hbl hbA hS (ix2 hj hL) dL_law_990 ?_
  refine lv_aload_n hx hb dL_law_991 rfl (lv_at hl 0 rfl) ?_
  refine lv_iload_n hx hb dL_law_992 rfl (lv_at hl 3 rfl) ?_
  refine lv_iconst (v := 3) hx hb dL_law_993 (by decide) ?_
  refine lv_iadd hx hb dL_law_994 ?_
  refine va_sld hx hb hX hbl hbA hS (ix3 hj hL) dL_law_995 ?_
  refine wd_cv X hP hS L0 ml_L_130 ⟨_, _, rfl⟩ (c_X11_drawn l D dA zz bs mm (xs (nI j + 1).toNatClampNeg) (xs (nI j + 2).toNatClampNeg) (xs (nI j + 3).toNatClampNeg) r m1 h1) rfl ⟨Nat.le_of_ble_eq_true rfl, Nat.le_of_ble_eq_true rfl⟩ hl.1 rfl (rest := []) (Nat.le_of_ble_eq_true rfl) hce dL_law_996 (fun H locs hP hS => ?_)
  refine W.eq (g2 := F0 m 999 ls [.int r]) rfl ?_
  refine lv_aload_n hx hb dL_law_999 rfl (lv_at hl 2 rfl) ?_
  refine lv_aload_n hx hb dL_law_1000 rfl (lv_at hl 0 rfl) ?_
  refine lv_iload_n hx hb dL_law_1001 rfl (lv_at hl 3 rfl) ?_
  refine lv_iconst (v := 1) hx hb dL_law_1002 (by decide) ?_
  refine lv_iadd hx hb dL_law_1003 ?_
  refine va_sld hx hb hX hbl hbA hS (ix1 hj hL) dL_law_1004 ?_
  refine lv_aload_n hx hb dL_law_1005 rfl (lv_at hl 0 rfl) ?_
  refine lv_iload_n hx hb dL_law_1006 rfl (lv_at hl 3 rfl) ?_
  refine lv_iconst (v := 2) hx hb dL_law_1007 (by decide) ?_
  refine lv_iadd hx hb dL_law_1008 ?_
  refine va_sld hx hb hX hbl hbA hS (ix2 hj hL) dL_law_1009 ?_
  refine lv_aload_n hx hb dL_law_1010 rfl (lv_at hl 0 rfl) ?_
  refine lv_iload_n hx hb dL_law_1011 rfl (lv_at hl 3 rfl) ?_
  refine lv_iconst (v := 3) hx hb dL_law_1012 (by decide) ?_
  refine lv_iadd hx hb dL_law_1013 ?_
  refine va_sld hx hb hX hbl hbA hS (ix3 hj hL) dL_law_1014 ?_
  refine wd_cv X hP hS L1088 ml_L_133 ⟨_, _, rfl⟩ (c_X12_drawn l D dA zz bs m1 (xs (nI j + 1).toNatClampNeg) (xs (nI j + 2).toNatClampNeg) (xs (nI j + 3).toNatClampNeg) r m2 h2) rfl ⟨Nat.le_of_ble_eq_true rfl, Nat.le_of_ble_eq_true rfl⟩ hl.1 rfl (rest := [.int r]) (Nat.le_of_ble_eq_true rfl) hce dL_law_1015 (fun H locs hP hS => ?_)
  refine W.eq (g2 := F0 m 1018 ls [.int r, .int r]) rfl ?_
  refine lv_icmp_eq (tgt := 1092) hx hb dL_law_1018 (by decide) (fun _ => ?_) (fun c_ => absurd rfl c_)
  exact kk m2 H locs hI hP hS
set_option maxRecDepth 100000 in
set_option maxHeartbeats 4000000 in
theorem lc_count {p : Program} {l : Launch} {e : Env} {s : State} {m : MethodId} {below : List Frame} {meth : Method} {c : Code} {D : va_G} {dA : Nat → ClassId} {zz : (Nat → Nat) × (Nat → Nat)} {bs b L : Nat} {xs : Nat → Int32} {Q : State → Prop} {CE SL j : Nat} (X : Cx p m meth c cL_law 4 s #[.ref b] RL D dA zz bs) (hX : va_X b L xs s s.heap) (hbl : b < s.heap.size) (hbA : ¬ Aq bs b) (hj : j + 6 ≤ L) (hL : L ≤ 3072) (hce : CE ≤ room_1.cells ∧ SL ≤ room_1.slots) (I : Mm → Prop) (hs : sm_count I) {mm : Mm} (hI : I mm) {H : Heap} {locs : List Loc} {ls : Array Slot} (hP : Wd D dA bs LY mm H) (hS : va_S (Aq bs) s.heap H locs) (hl : lv_has ls 4 [(0, .ref b), (1, .ref (bs + 0)), (2, .ref (bs + 1088)), (3, .int (nI j))])
    (kk : ∀ (m' : Mm) (H : Heap) (locs : List Loc), I m' → Wd D dA bs LY m' H → va_S (Aq bs) s.heap H locs → W p l e room_1 s m #[.ref b] below meth c H locs CE SL Q (F0 m 1092 ls [])) : W p l e room_1 s m #[.ref b] below meth c H locs CE SL Q (F0 m 1023 ls []) := by
  obtain ⟨r, m1, h1, h2, hI⟩ := hs mm (xs (nI j + 1).toNatClampNeg) hI
  have hx := X.1
  have hb := X.2.1
  refine lv_aload_n hx hb dL_law_1023 rfl (lv_at hl 1 rfl) ?_
  refine lv_aload_n hx hb dL_law_1024 rfl (lv_at hl 0 rfl) ?_
  refine lv_iload_n hx hb dL_law_1025 rfl (lv_at hl 3 rfl) ?_
  refine lv_iconst (v := 1) hx hb dL_law_1026 (by decide) ?_
  refine lv_iadd hx hb dL_law_1027 ?_
  refine va_sld hx hb hX hbl hbA hS (ix1 hj hL) dL_law_1028 ?_
  refine wd_cv X hP hS L0 ml_L_134 ⟨_, _, rfl⟩ (c_X11_count l D dA zz bs mm (xs (nI j + 1).toNatClampNeg) r m1 h1) rfl ⟨Nat.le_of_ble_eq_true rfl, Nat.le_of_ble_eq_true rfl⟩ hl.1 rfl (rest := []) (Nat.le_of_ble_eq_true rfl) hce dL_law_1029 (fun H locs hP hS => ?_)
  refine W.eq (g2 := F0 m 1032 ls [.int r]) rfl ?_
  refine lv_aload_n hx hb dL_law_1032 rfl (lv_at hl 2 rfl) ?_
  refine lv_aload_n hx hb dL_law_1033 rfl (lv_at hl 0 rfl) ?_
  refine lv_iload_n hx hb dL_law_1034 rfl (lv_at hl 3 rfl) ?_
  refine lv_iconst (v := 1) hx hb dL_law_1035 (by decide) ?_
  refine lv_iadd hx hb dL_law_1036 ?_
  refine va_sld hx hb hX hbl hbA hS (ix1 hj hL) dL_law_1037 ?_
  refine wd_cv X hP hS L1088 ml_L_137 ⟨_, _, rfl⟩ (c_X12_count l D dA zz bs m1 (xs (nI j + 1).toNatClampNeg) r h2) rfl ⟨Nat.le_of_ble_eq_true rfl, Nat.le_of_ble_eq_true rfl⟩ hl.1 rfl (rest := [.int r]) (Nat.le_of_ble_eq_true rfl) hce dL_law_1038 (fun H locs hP hS => ?_)
  refine W.eq (g2 := F0 m 1041 ls [.int r, .int r]) rfl ?_
  refine lv_icmp_eq (tgt := 1092) hx hb dL_law_1041 (by decide) (fun _ => ?_) (fun c_ => absurd rfl c_)
  exact kk m1 H locs hI hP hS
set_option maxRecDepth 100000 in
set_option maxHeartbeats 4000000 in
theorem lc_image {p : Program} {l : Launch} {e : Env} {s : State} {m : MethodId} {below : List Frame} {meth : Method} {c : Code} {D : va_G} {dA : Nat → ClassId} {zz : (Nat → Nat) × (Nat → Nat)} {bs b L : Nat} {xs : Nat → Int32} {Q : State → Prop} {CE SL j : Nat} (X : Cx p m meth c cL_law 4 s #[.ref b] RL D dA zz bs) (hX : va_X b L xs s s.heap) (hbl : b < s.heap.size) (hbA : ¬ Aq bs b) (hj : j + 6 ≤ L) (hL : L ≤ 3072) (hce : CE ≤ room_1.cells ∧ SL ≤ room_1.slots) (I : Mm → Prop) (hs : sm_image I) {mm : Mm} (hI : I mm) {H : Heap} {locs : List Loc} {ls : Array Slot} (hP : Wd D dA bs LY mm H) (hS : va_S (Aq bs) s.heap H locs) (hl : lv_has ls 4 [(0, .ref b), (1, .ref (bs + 0)), (2, .ref (bs + 1088)), (3, .int (nI j))])
    (kk : ∀ (m' : Mm) (H : Heap) (locs : List Loc), I m' → Wd D dA bs LY m' H → va_S (Aq bs) s.heap H locs → W p l e room_1 s m #[.ref b] below meth c H locs CE SL Q (F0 m 1092 ls [])) : W p l e room_1 s m #[.ref b] below meth c H locs CE SL Q (F0 m 1046 ls []) := by
  obtain ⟨r, m1, m2, h1, h2, hI⟩ := hs mm (xs (nI j + 1).toNatClampNeg) hI
  have hx := X.1
  have hb := X.2.1
  refine lv_aload_n hx hb dL_law_1046 rfl (lv_at hl 1 rfl) ?_
  refine lv_aload_n hx hb dL_law_1047 rfl (lv_at hl 0 rfl) ?_
  refine lv_iload_n hx hb dL_law_1048 rfl (lv_at hl 3 rfl) ?_
  refine lv_iconst (v := 1) hx hb dL_law_1049 (by decide) ?_
  refine lv_iadd hx hb dL_law_1050 ?_
  refine va_sld hx hb hX hbl hbA hS (ix1 hj hL) dL_law_1051 ?_
  refine wd_cv X hP hS L0 ml_L_138 ⟨_, _, rfl⟩ (c_X11_image l D dA zz bs mm (xs (nI j + 1).toNatClampNeg) r m1 h1) rfl ⟨Nat.le_of_ble_eq_true rfl, Nat.le_of_ble_eq_true rfl⟩ hl.1 rfl (rest := []) (Nat.le_of_ble_eq_true rfl) hce dL_law_1052 (fun H locs hP hS => ?_)
  refine W.eq (g2 := F0 m 1055 ls [.int r]) rfl ?_
  refine lv_aload_n hx hb dL_law_1055 rfl (lv_at hl 2 rfl) ?_
  refine lv_aload_n hx hb dL_law_1056 rfl (lv_at hl 0 rfl) ?_
  refine lv_iload_n hx hb dL_law_1057 rfl (lv_at hl 3 rfl) ?_
  refine lv_iconst (v := 1) hx hb dL_law_1058 (by decide) ?_
  refine lv_iadd hx hb dL_law_1059 ?_
  refine va_sld hx hb hX hbl hbA hS (ix1 hj hL) dL_law_1060 ?_
  refine wd_cv X hP hS L1088 ml_L_141 ⟨_, _, rfl⟩ (c_X12_image l D dA zz bs m1 (xs (nI j + 1).toNatClampNeg) r m2 h2) rfl ⟨Nat.le_of_ble_eq_true rfl, Nat.le_of_ble_eq_true rfl⟩ hl.1 rfl (rest := [.int r]) (Nat.le_of_ble_eq_true rfl) hce dL_law_1061 (fun H locs hP hS => ?_)
  refine W.eq (g2 := F0 m 1064 ls [.int r, .int r]) rfl ?_
  refine lv_icmp_eq (tgt := 1092) hx hb dL_law_1064 (by decide) (fun _ => ?_) (fun c_ => absurd rfl c_)
  exact kk m2 H locs hI hP hS
set_option maxRecDepth 100000 in
set_option maxHeartbeats 4000000 in
theorem lc_back {p : Program} {l : Launch} {e : Env} {s : State} {m : MethodId} {below : List Frame} {meth : Method} {c : Code} {D : va_G} {dA : Nat → ClassId} {zz : (Nat → Nat) × (Nat → Nat)} {bs b L : Nat} {xs : Nat → Int32} {Q : State → Prop} {CE SL j : Nat} (X : Cx p m meth c cL_law 4 s #[.ref b] RL D dA zz bs) (hX : va_X b L xs s s.heap) (hbl : b < s.heap.size) (hbA : ¬ Aq bs b) (hj : j + 6 ≤ L) (hL : L ≤ 3072) (hce : CE ≤ room_1.cells ∧ SL ≤ room_1.slots) (I : Mm → Prop) (hs : sm_back I) {mm : Mm} (hI : I mm) {H : Heap} {locs : List Loc} {ls : Array Slot} (hP : Wd D dA bs LY mm H) (hS : va_S (Aq bs) s.heap H locs) (hl : lv_has ls 4 [(0, .ref b), (1, .ref (bs + 0)), (2, .ref (bs + 1088)), (3, .int (nI j))])
    (kk : ∀ (m' : Mm) (H : Heap) (locs : List Loc), I m' → Wd D dA bs LY m' H → va_S (Aq bs) s.heap H locs → W p l e room_1 s m #[.ref b] below meth c H locs CE SL Q (F0 m 1092 ls [])) : W p l e room_1 s m #[.ref b] below meth c H locs CE SL Q (F0 m 1069 ls []) := by
  obtain ⟨r, m1, m2, h1, h2, hI⟩ := hs mm (xs (nI j + 1).toNatClampNeg) hI
  have hx := X.1
  have hb := X.2.1
  refine lv_aload_n hx hb dL_law_1069 rfl (lv_at hl 1 rfl) ?_
  refine lv_aload_n hx hb dL_law_1070 rfl (lv_at hl 0 rfl) ?_
  refine lv_iload_n hx hb dL_law_1071 rfl (lv_at hl 3 rfl) ?_
  refine lv_iconst (v := 1) hx hb dL_law_1072 (by decide) ?_
  refine lv_iadd hx hb dL_law_1073 ?_
  refine va_sld hx hb hX hbl hbA hS (ix1 hj hL) dL_law_1074 ?_
  refine wd_cv X hP hS L0 ml_L_142 ⟨_, _, rfl⟩ (c_X11_back l D dA zz bs mm (xs (nI j + 1).toNatClampNeg) r m1 h1) rfl ⟨Nat.le_of_ble_eq_true rfl, Nat.le_of_ble_eq_true rfl⟩ hl.1 rfl (rest := []) (Nat.le_of_ble_eq_true rfl) hce dL_law_1075 (fun H locs hP hS => ?_)
  refine W.eq (g2 := F0 m 1078 ls [.int r]) rfl ?_
  refine lv_aload_n hx hb dL_law_1078 rfl (lv_at hl 2 rfl) ?_
  refine lv_aload_n hx hb dL_law_1079 rfl (lv_at hl 0 rfl) ?_
  refine lv_iload_n hx hb dL_law_1080 rfl (lv_at hl 3 rfl) ?_
  refine lv_iconst (v := 1) hx hb dL_law_1081 (by decide) ?_
  refine lv_iadd hx hb dL_law_1082 ?_
  refine va_sld hx hb hX hbl hbA hS (ix1 hj hL) dL_law_1083 ?_
  refine wd_cv X hP hS L1088 ml_L_145 ⟨_, _, rfl⟩ (c_X12_back l D dA zz bs m1 (xs (nI j + 1).toNatClampNeg) r m2 h2) rfl ⟨Nat.le_of_ble_eq_true rfl, Nat.le_of_ble_eq_true rfl⟩ hl.1 rfl (rest := [.int r]) (Nat.le_of_ble_eq_true rfl) hce dL_law_1084 (fun H locs hP hS => ?_)
  refine W.eq (g2 := F0 m 1087 ls [.int r, .int r]) rfl ?_
  refine lv_icmp_eq (tgt := 1092) hx hb dL_law_1087 (by decide) (fun _ => ?_) (fun c_ => absurd rfl c_)
  exact kk m2 H locs hI hP hS
set_option maxRecDepth 100000 in
set_option maxHeartbeats 4000000 in
theorem law_loop {p : Program} {l : Launch} {e : Env} {s : State} {m : MethodId} {below : List Frame} {meth : Method} {c : Code} {D : va_G} {dA : Nat → ClassId} {zz : (Nat → Nat) × (Nat → Nat)} {bs b L : Nat} {xs : Nat → Int32} {CE SL : Nat} (X : Cx p m meth c cL_law 4 s #[.ref b] RL D dA zz bs) (hr : meth.sig.returnType = ret) (hX : va_X b L xs s s.heap) (hbl : b < s.heap.size) (hbA : ¬ Aq bs b) (hbs : s.heap.size ≤ bs) (hL : L ≤ 3072) (hce : CE ≤ 600000 ∧ SL ≤ 7302250) (I : Mm → Prop) (hs : sm_all I) :
    ∀ (n j : Nat) (mm : Mm), L < j + 6 * n → j ≤ L → I mm → ∀ (H : Heap) (locs : List Loc) (ls : Array Slot), Wd D dA bs LY mm H → va_S (Aq bs) s.heap H locs → lv_has ls 4 [(0, .ref b), (1, .ref (bs + 0)), (2, .ref (bs + 1088)), (3, .int (nI j))] → W p l e room_1 s m #[.ref b] below meth c H locs CE SL (lw_Z below #[.ref b] s) (F0 m 18 ls []) := by
  obtain ⟨hs0, hs1, hs2, hs3, hs4, hs5, hs6, hs7, hs8, hs9, hs10, hs11, hs12, hs13, hs14, hs15, hs16, hs17, hs18, hs19, hs20, hs21, hs22, hs23, hs24, hs25, hs26, hs27, hs28, hs29, hs30, hs31⟩ := hs
  have hx := X.1
  have hb := X.2.1
  intro n
  induction n with
  | zero => intro j mm h1 h2; exact absurd h1 (by omega)
  | succ n ih =>
    intro j mm hn hjL hI H locs ls hP hS hl
    refine lv_iload_n hx hb dL_law_18 rfl (lv_at hl 3 rfl) ?_
    refine lv_aload_n hx hb dL_law_19 rfl (lv_at hl 0 rfl) ?_
    refine va_slen hx hb hX hbl hbA hS dL_law_20 ?_
    refine lv_bipush (v := 6) hx hb dL_law_21 (by decide) ?_
    refine lv_isub hx hb dL_law_23 ?_
    refine lv_icmp_gt (tgt := 1098) hx hb dL_law_24 (by decide) (fun c_1 => ?_) (fun c_1 => ?_)
    · refine lv_iconst (v := 1) hx hb dL_law_1098 (by decide) ?_
      refine va_forget (fun q hq => Nat.le_trans hbs (hS.2.2 q hq)) ?_
      refine W.widen (k := 600000) (n := 7302250) hce.1 hce.2 ?_
      exact lw_ret hx hb hr X.2.2.2.2.2.2.2.1 dL_law_1099
    · have hj : j + 6 ≤ L := by
        rcases Nat.lt_or_ge L (j + 6) with q | q
        · exact absurd (ixg q hjL hL) c_1
        · exact q
      have kk : ∀ (m' : Mm) (H : Heap) (locs : List Loc), I m' → Wd D dA bs LY m' H → va_S (Aq bs) s.heap H locs → W p l e room_1 s m #[.ref b] below meth c H locs CE SL (lw_Z below #[.ref b] s) (F0 m 1092 ls []) := by
        intro m' H locs hI hP hS
        refine lv_iinc (v := nI (j + 6)) (lv' := [(3, .int (nI (j + 6))), (0, .ref b), (1, .ref (bs + 0)), (2, .ref (bs + 1088))]) hx hb dL_law_1092 hl (k := 3) rfl (nI_add j 6) (by decide) rfl (fun ls hl => ?_)
        refine lv_goto (tgt := 18) hx hb dL_law_1095 (by decide) ?_
        exact ih (j + 6) m' (by omega) hj hI H locs ls hP hS (lv_sub hl [1, 2, 3, 0] rfl)
      refine lv_aload_n hx hb dL_law_27 rfl (lv_at hl 0 rfl) ?_
      refine lv_iload_n hx hb dL_law_28 rfl (lv_at hl 3 rfl) ?_
      refine va_sld hx hb hX hbl hbA hS (ix0 hj hL) dL_law_29 ?_
      refine lv_bipush (v := 31) hx hb dL_law_30 (by decide) ?_
      refine lv_iand hx hb dL_law_32 ?_
      obtain ⟨k, hk, ek⟩ := pk_andE (xs (nI j).toNatClampNeg) (m := 31) 5 (by decide)
      rw [ek]
      have key : ∀ (t : Nat) (off : Int), (#[143, 206, 229, 242, 255, 288, 321, 354, 377, 400, 413, 456, 479, 502, 535, 548, 591, 624, 647, 680, 703, 736, 769, 792, 815, 858, 891, 924, 947, 990, 1013, 1036] : Array Int)[k]? = some off → (33 : Int) + off = (t : Int) → W p l e room_1 s m #[.ref b] below meth c H locs CE SL (lw_Z below #[.ref b] s) (F0 m t ls []) → W p l e room_1 s m #[.ref b] below meth c H locs CE SL (lw_Z below #[.ref b] s) (F0 m 33 ls [.int (nI k)]) := by
        intro t off h1 h2 h3
        have hkI : (nI k).toInt = (k : Int) := nI_toInt (by omega)
        refine lv_tableIn (tgt := t) (off := off) hx hb dL_law_33 (by rw [hkI]; omega) (by rw [hkI]; omega) ?_ h2 h3
        rw [hkI]
        show _[((k : Int) - 0).toNat]? = _
        rw [Int.sub_zero, Int.toNat_natCast]
        exact h1
      match k, hk with
      | 0, _ => exact key 176 143 rfl (by decide) (lc_feed X hX hbl hbA hj hL hce I hs0 hI hP hS hl kk)
      | 1, _ => exact key 239 206 rfl (by decide) (lc_end X hX hbl hbA hj hL hce I hs1 hI hP hS hl kk)
      | 2, _ => exact key 262 229 rfl (by decide) (lc_river X hX hbl hbA hj hL hce I hs2 hI hP hS hl kk)
      | 3, _ => exact key 275 242 rfl (by decide) (lc_rule X hX hbl hbA hj hL hce I hs3 hI hP hS hl kk)
      | 4, _ => exact key 288 255 rfl (by decide) (lc_owner X hX hbl hbA hj hL hce I hs4 hI hP hS hl kk)
      | 5, _ => exact key 321 288 rfl (by decide) (lc_thing X hX hbl hbA hj hL hce I hs5 hI hP hS hl kk)
      | 6, _ => exact key 354 321 rfl (by decide) (lc_rope X hX hbl hbA hj hL hce I hs6 hI hP hS hl kk)
      | 7, _ => exact key 387 354 rfl (by decide) (lc_rapid X hX hbl hbA hj hL hce I hs7 hI hP hS hl kk)
      | 8, _ => exact key 410 377 rfl (by decide) (lc_margin X hX hbl hbA hj hL hce I hs8 hI hP hS hl kk)
      | 9, _ => exact key 433 400 rfl (by decide) (lc_mile X hX hbl hbA hj hL hce I hs9 hI hP hS hl kk)
      | 10, _ => exact key 446 413 rfl (by decide) (lc_bind X hX hbl hbA hj hL hce I hs10 hI hP hS hl kk)
      | 11, _ => exact key 489 456 rfl (by decide) (lc_cut X hX hbl hbA hj hL hce I hs11 hI hP hS hl kk)
      | 12, _ => exact key 512 479 rfl (by decide) (lc_saw X hX hbl hbA hj hL hce I hs12 hI hP hS hl kk)
      | 13, _ => exact key 535 502 rfl (by decide) (lc_push X hX hbl hbA hj hL hce I hs13 hI hP hS hl kk)
      | 14, _ => exact key 568 535 rfl (by decide) (lc_undo X hX hbl hbA hj hL hce I hs14 hI hP hS hl kk)
      | 15, _ => exact key 581 548 rfl (by decide) (lc_run X hX hbl hbA hj hL hce I hs15 hI hP hS hl kk)
      | 16, _ => exact key 624 591 rfl (by decide) (lc_ahead X hX hbl hbA hj hL hce I hs16 hI hP hS hl kk)
      | 17, _ => exact key 657 624 rfl (by decide) (lc_sinks X hX hbl hbA hj hL hce I hs17 hI hP hS hl kk)
      | 18, _ => exact key 680 647 rfl (by decide) (lc_bearers X hX hbl hbA hj hL hce I hs18 hI hP hS hl kk)
      | 19, _ => exact key 713 680 rfl (by decide) (lc_plan X hX hbl hbA hj hL hce I hs19 hI hP hS hl kk)
      | 20, _ => exact key 736 703 rfl (by decide) (lc_sawn X hX hbl hbA hj hL hce I hs20 hI hP hS hl kk)
      | 21, _ => exact key 769 736 rfl (by decide) (lc_locks X hX hbl hbA hj hL hce I hs21 hI hP hS hl kk)
      | 22, _ => exact key 802 769 rfl (by decide) (lc_delta X hX hbl hbA hj hL hce I hs22 hI hP hS hl kk)
      | 23, _ => exact key 825 792 rfl (by decide) (lc_weak X hX hbl hbA hj hL hce I hs23 hI hP hS hl kk)
      | 24, _ => exact key 848 815 rfl (by decide) (lc_offer X hX hbl hbA hj hL hce I hs24 hI hP hS hl kk)
      | 25, _ => exact key 891 858 rfl (by decide) (lc_take X hX hbl hbA hj hL hce I hs25 hI hP hS hl kk)
      | 26, _ => exact key 924 891 rfl (by decide) (lc_game X hX hbl hbA hj hL hce I hs26 hI hP hS hl kk)
      | 27, _ => exact key 957 924 rfl (by decide) (lc_seed X hX hbl hbA hj hL hce I hs27 hI hP hS hl kk)
      | 28, _ => exact key 980 947 rfl (by decide) (lc_drawn X hX hbl hbA hj hL hce I hs28 hI hP hS hl kk)
      | 29, _ => exact key 1023 990 rfl (by decide) (lc_count X hX hbl hbA hj hL hce I hs29 hI hP hS hl kk)
      | 30, _ => exact key 1046 1013 rfl (by decide) (lc_image X hX hbl hbA hj hL hce I hs30 hI hP hS hl kk)
      | 31, _ => exact key 1069 1036 rfl (by decide) (lc_back X hX hbl hbA hj hL hce I hs31 hI hP hS hl kk)
      | k + 32, hk => exact absurd hk (by omega)
