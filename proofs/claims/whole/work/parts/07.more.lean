/-! MORE ROWS: at a literal place; arraycopy; the frame of a walk -/
section more
variable {p : Program} {l : Launch} {e : Env} {R : Room} {s : State} {m : MethodId} {args : Array Value} {below : List Frame} {meth : Method} {c : Code} {H : Heap} {locs : List Loc} {cells slots : Nat} {Q : State → Prop} {cc : ByteArray} {nL : Nat} {own : String} {D : va_G} {dA : Nat → ClassId} {zz : (Nat → Nat) × (Nat → Nat)} {bs : Nat} {ly : List Lay} {mm : Mm} {pc : Nat} {ls : Array Slot} {rest : List Value}
theorem wd_ialdK (X : Cx p m meth c cc nL s args own D dA zz bs) (hP : Wd D dA bs ly mm H) {i n k : Nat} {g : Nat → Option Nat} (hL : ly[i]? = some (.inr (0, n, g))) {x : Int32} (hin : ¬ (x < 0 ∨ n ≤ x.toNatClampNeg)) (hk : x.toNatClampNeg = k) (hdg : decode cc pc = .ok (.iaload, 1))
    (kk : W p l e R s m args below meth c H locs cells slots Q (F0 m (pc + 1) ls (.int (mm.1 i k) :: rest))) : W p l e R s m args below meth c H locs cells slots Q (F0 m pc ls (.int x :: .ref (bs + i) :: rest)) := wd_iald X hP hL hin hdg (by rw [hk]; exact kk)
theorem wd_baldK (X : Cx p m meth c cc nL s args own D dA zz bs) (hP : Wd D dA bs ly mm H) {i n k : Nat} {g : Nat → Option Nat} (hL : ly[i]? = some (.inr (1, n, g))) {x : Int32} (hin : ¬ (x < 0 ∨ n ≤ x.toNatClampNeg)) (hk : x.toNatClampNeg = k) (hdg : decode cc pc = .ok (.baload, 1))
    (kk : W p l e R s m args below meth c H locs cells slots Q (F0 m (pc + 1) ls (.int (mm.1 i k) :: rest))) : W p l e R s m args below meth c H locs cells slots Q (F0 m pc ls (.int x :: .ref (bs + i) :: rest)) := wd_bald X hP hL hin hdg (by rw [hk]; exact kk)
theorem wd_zaldK (X : Cx p m meth c cc nL s args own D dA zz bs) (hP : Wd D dA bs ly mm H) {i n k : Nat} {g : Nat → Option Nat} (hL : ly[i]? = some (.inr (2, n, g))) {x : Int32} (hin : ¬ (x < 0 ∨ n ≤ x.toNatClampNeg)) (hk : x.toNatClampNeg = k) (hdg : decode cc pc = .ok (.baload, 1))
    (kk : W p l e R s m args below meth c H locs cells slots Q (F0 m (pc + 1) ls (.int (mm.1 i k) :: rest))) : W p l e R s m args below meth c H locs cells slots Q (F0 m pc ls (.int x :: .ref (bs + i) :: rest)) := wd_zald X hP hL hin hdg (by rw [hk]; exact kk)
theorem wd_laldK (X : Cx p m meth c cc nL s args own D dA zz bs) (hP : Wd D dA bs ly mm H) {i n k : Nat} {g : Nat → Option Nat} (hL : ly[i]? = some (.inr (3, n, g))) {x : Int32} (hin : ¬ (x < 0 ∨ n ≤ x.toNatClampNeg)) (hk : x.toNatClampNeg = k) (hdg : decode cc pc = .ok (.laload, 1))
    (kk : W p l e R s m args below meth c H locs cells slots Q (F0 m (pc + 1) ls (.long (mm.2 i k) :: rest))) : W p l e R s m args below meth c H locs cells slots Q (F0 m pc ls (.int x :: .ref (bs + i) :: rest)) := wd_lald X hP hL hin hdg (by rw [hk]; exact kk)
theorem wd_iastK (X : Cx p m meth c cc nL s args own D dA zz bs) (hP : Wd D dA bs ly mm H) (hS : va_S (Aq bs) s.heap H locs) {i n k : Nat} {g : Nat → Option Nat} (hL : ly[i]? = some (.inr (0, n, g))) {x v : Int32} (hin : ¬ (x < 0 ∨ n ≤ x.toNatClampNeg)) (hk : x.toNatClampNeg = k) (hdg : decode cc pc = .ok (.iastore, 1))
    (kk : ∀ (H1 : Heap) (locs1 : List Loc) (m1 : Mm), m1 = wI mm i k v → Wd D dA bs ly m1 H1 → va_S (Aq bs) s.heap H1 locs1 → W p l e R s m args below meth c H1 locs1 cells slots Q (F0 m (pc + 1) ls rest)) : W p l e R s m args below meth c H locs cells slots Q (F0 m pc ls (.int v :: .int x :: .ref (bs + i) :: rest)) := wd_iast X hP hS hL hin hdg (by rw [hk]; exact kk)
theorem wd_lastK (X : Cx p m meth c cc nL s args own D dA zz bs) (hP : Wd D dA bs ly mm H) (hS : va_S (Aq bs) s.heap H locs) {i n k : Nat} {g : Nat → Option Nat} (hL : ly[i]? = some (.inr (3, n, g))) {x : Int32} {v : Int64} (hin : ¬ (x < 0 ∨ n ≤ x.toNatClampNeg)) (hk : x.toNatClampNeg = k) (hdg : decode cc pc = .ok (.lastore, 1))
    (kk : ∀ (H1 : Heap) (locs1 : List Loc) (m1 : Mm), m1 = wL mm i k v → Wd D dA bs ly m1 H1 → va_S (Aq bs) s.heap H1 locs1 → W p l e R s m args below meth c H1 locs1 cells slots Q (F0 m (pc + 1) ls rest)) : W p l e R s m args below meth c H locs cells slots Q (F0 m pc ls (.long v :: .int x :: .ref (bs + i) :: rest)) := wd_last X hP hS hL hin hdg (by rw [hk]; exact kk)
theorem wd_copy (X : Cx p m meth c cc nL s args own D dA zz bs) (hP : Wd D dA bs ly mm H) (hS : va_S (Aq bs) s.heap H locs) {i0 i n0 n1 k idx : Nat} {g0 g1 : Nat → Option Nat} (hL0 : ly[i0]? = some (.inr (0, n0, g0))) (hL1 : ly[i]? = some (.inr (0, n1, g1))) (hw : Cond.methodLink own idx arraycopyName ∈ gt ∧ Cond.native arraycopyName ∈ gt ∧ Cond.static arraycopyName ∈ gt ∧ Cond.initialized "java/lang/System" ∈ gt) {x : Int32} (hx0 : ¬ x < 0) (hk : x.toNatClampNeg = k) (h4 : k ≤ n0 ∧ k ≤ n1) (hls : ls.size = nL) (hfr : 1 ≤ R.frames) (hlo : (rest.map fun v => v.category).sum + (nativeFrameWords "java/lang/System" "arraycopy" 5 + 11) ≤ R.locals) (hdg : decode cc pc = .ok (.invokestatic idx, 3))
    (kk : ∀ (H1 : Heap) (locs1 : List Loc) (m1 : Mm), m1 = wA mm i (va_cpy (mm.1 i0) (mm.1 i) 0 0 k) → Wd D dA bs ly m1 H1 → va_S (Aq bs) s.heap H1 locs1 → W p l e R s m args below meth c H1 locs1 cells slots Q (F0 m (pc + 3) ls rest)) : W p l e R s m args below meth c H locs cells slots Q (F0 m pc ls (.int x :: .int 0 :: .ref (bs + i) :: .int 0 :: .ref (bs + i0) :: rest)) := by
  obtain ⟨hx, hb, hml, hown, hts, hK, -⟩ := X
  refine va_copyi (ty := .int) hx hb (hml.trans hls.symm) hown (hts _ hw.1) (hts _ hw.2.1) (hts _ hw.2.2.1) (hts _ hw.2.2.2) hK hP wsW_D hS i0 i 0 0 (wsW_at hL0) (wsW_at hL1) rfl rfl rfl (by decide) (by decide) hx0 ?_ ?_ (fun _ _ => rfl) hfr hlo hdg (fun H1 locs1 hP1 _ hS1 => ?_)
  · rw [hk]; show 0 + k ≤ n0; omega
  · rw [hk]; show 0 + k ≤ n1; omega
  · refine kk H1 locs1 _ rfl ?_ hS1
    unfold Wd
    rw [← wsW_wA hL1 (by decide)]
    rw [hk] at hP1
    exact hP1
end more
theorem ac_n : Cond.native arraycopyName ∈ gt := tb_at 666 (by decide +kernel) (by decide +kernel)
theorem ac_s : Cond.static arraycopyName ∈ gt := tb_at 665 (by decide +kernel) (by decide +kernel)
theorem ac_i : Cond.initialized "java/lang/System" ∈ gt := tb_at 20 (by decide +kernel) (by decide +kernel)
abbrev Wz (p : Program) (l : Launch) (e : Env) (s : State) (m : MethodId) (args : Array Value) (below : List Frame) (meth : Method) (c : Code) (D : va_G) (dA : Nat → ClassId) (bs : Nat) (rv : Option Value) (m1 : Mm) (fr lo : Nat) (H : Heap) (locs : List Loc) (pc : Nat) (ls : Array Slot) (st : List Value) : Prop :=
  W p l e (rmW fr lo) s m args below meth c H locs 0 0 (MQ below (QcW D dA bs LY rv m1) args s 0 0 (Aq bs)) (F0 m pc ls st)
theorem ne_toInt {x k : Int32} {a : Int} (h : ¬ x = k) (hk : k.toInt = a) : x.toInt ≠ a := fun e => h (Int32.toInt_inj.mp (e.trans hk.symm))
theorem wd_aret {p : Program} {l : Launch} {e : Env} {R : Room} {s : State} {m : MethodId} {args : Array Value} {below : List Frame} {meth : Method} {c : Code} {H : Heap} {locs : List Loc} {cells slots : Nat} {cc : ByteArray} {nL : Nat} {own : String} {D : va_G} {dA : Nat → ClassId} {zz : (Nat → Nat) × (Nat → Nat)} {bs : Nat} {ly : List Lay} {mm m1 : Mm} {pc : Nat} {ls : Array Slot} {rv : Option Value} (X : Cx p m meth c cc nL s args own D dA zz bs) (hP : Wd D dA bs ly mm H) (hS : va_S (Aq bs) s.heap H locs) (hr : meth.sig.returnType = some (.object "java/lang/String")) {v : Nat} (hdg : decode cc pc = .ok (.areturn, 1)) (ho : some (Value.ref v) = rv ∧ mm = m1) : W p l e R s m args below meth c H locs cells slots (MQ below (QcW D dA bs ly rv m1) args s cells slots (Aq bs)) (F0 m pc ls [.ref v]) := by
  obtain ⟨h1, h2⟩ := ho
  subst h1; subst h2
  exact W.aret X.1 X.2.1 hr (Or.inl ⟨_, rfl⟩) (Or.inr ⟨v, rfl⟩) (fun t ht hW => ⟨⟨rfl, by rw [ht]; exact hP⟩, hS.F ht⟩) hS.2.2 hdg X.2.2.2.2.2.2.2.1
theorem lk_out2 {x : Int32} {o0 o1 d : Int} (h0 : ¬ x = 0) (h1 : ¬ x = 1) : Op.lookupswitch.offset [(0, o0), (1, o1)] d x.toInt = d := by
  rw [lv_osw h0 (by decide), lv_osw h1 (by decide)]
  rfl
theorem tb_out3 {x : Int32} (h0 : ¬ x = 0) (h1 : ¬ x = 1) (h2 : ¬ x = 2) : x.toInt < 0 ∨ 2 < x.toInt := by
  have k0 := ne_toInt (a := 0) h0 (by decide)
  have k1 := ne_toInt (a := 1) h1 (by decide)
  have k2 := ne_toInt (a := 2) h2 (by decide)
  omega
theorem tb_out4 {x : Int32} (h0 : ¬ x = 0) (h1 : ¬ x = 1) (h2 : ¬ x = 2) (h3 : ¬ x = 3) : x.toInt < 0 ∨ 3 < x.toInt := by
  have k0 := ne_toInt (a := 0) h0 (by decide)
  have k1 := ne_toInt (a := 1) h1 (by decide)
  have k2 := ne_toInt (a := 2) h2 (by decide)
  have k3 := ne_toInt (a := 3) h3 (by decide)
  omega
theorem tb_out6 {x : Int32} (h0 : ¬ x = 0) (h1 : ¬ x = 1) (h2 : ¬ x = 2) (h3 : ¬ x = 3) (h4 : ¬ x = 4) (h5 : ¬ x = 5) : x.toInt < 0 ∨ 5 < x.toInt := by
  have k0 := ne_toInt (a := 0) h0 (by decide)
  have k1 := ne_toInt (a := 1) h1 (by decide)
  have k2 := ne_toInt (a := 2) h2 (by decide)
  have k3 := ne_toInt (a := 3) h3 (by decide)
  have k4 := ne_toInt (a := 4) h4 (by decide)
  have k5 := ne_toInt (a := 5) h5 (by decide)
  omega
theorem tb_out11 {x : Int32} (h0 : ¬ x = 0) (h1 : ¬ x = 1) (h2 : ¬ x = 2) (h3 : ¬ x = 3) (h4 : ¬ x = 4) (h5 : ¬ x = 5) (h6 : ¬ x = 6) (h7 : ¬ x = 7) (h8 : ¬ x = 8) (h9 : ¬ x = 9) (h10 : ¬ x = 10) : x.toInt < 0 ∨ 10 < x.toInt := by
  have k0 := ne_toInt (a := 0) h0 (by decide)
  have k1 := ne_toInt (a := 1) h1 (by decide)
  have k2 := ne_toInt (a := 2) h2 (by decide)
  have k3 := ne_toInt (a := 3) h3 (by decide)
  have k4 := ne_toInt (a := 4) h4 (by decide)
  have k5 := ne_toInt (a := 5) h5 (by decide)
  have k6 := ne_toInt (a := 6) h6 (by decide)
  have k7 := ne_toInt (a := 7) h7 (by decide)
  have k8 := ne_toInt (a := 8) h8 (by decide)
  have k9 := ne_toInt (a := 9) h9 (by decide)
  have k10 := ne_toInt (a := 10) h10 (by decide)
  omega
theorem tb_out14 {x : Int32} (h0 : ¬ x = 0) (h1 : ¬ x = 1) (h2 : ¬ x = 2) (h3 : ¬ x = 3) (h4 : ¬ x = 4) (h5 : ¬ x = 5) (h6 : ¬ x = 6) (h7 : ¬ x = 7) (h8 : ¬ x = 8) (h9 : ¬ x = 9) (h10 : ¬ x = 10) (h11 : ¬ x = 11) (h12 : ¬ x = 12) (h13 : ¬ x = 13) : x.toInt < 0 ∨ 13 < x.toInt := by
  have k0 := ne_toInt (a := 0) h0 (by decide)
  have k1 := ne_toInt (a := 1) h1 (by decide)
  have k2 := ne_toInt (a := 2) h2 (by decide)
  have k3 := ne_toInt (a := 3) h3 (by decide)
  have k4 := ne_toInt (a := 4) h4 (by decide)
  have k5 := ne_toInt (a := 5) h5 (by decide)
  have k6 := ne_toInt (a := 6) h6 (by decide)
  have k7 := ne_toInt (a := 7) h7 (by decide)
  have k8 := ne_toInt (a := 8) h8 (by decide)
  have k9 := ne_toInt (a := 9) h9 (by decide)
  have k10 := ne_toInt (a := 10) h10 (by decide)
  have k11 := ne_toInt (a := 11) h11 (by decide)
  have k12 := ne_toInt (a := 12) h12 (by decide)
  have k13 := ne_toInt (a := 13) h13 (by decide)
  omega
theorem tb_out1_4 {x : Int32} (h1 : ¬ x = 1) (h2 : ¬ x = 2) (h3 : ¬ x = 3) (h4 : ¬ x = 4) : x.toInt < 1 ∨ 4 < x.toInt := by
  have k1 := ne_toInt (a := 1) h1 (by decide)
  have k2 := ne_toInt (a := 2) h2 (by decide)
  have k3 := ne_toInt (a := 3) h3 (by decide)
  have k4 := ne_toInt (a := 4) h4 (by decide)
  omega
theorem tb_out2_14 {x : Int32} (h2 : ¬ x = 2) (h3 : ¬ x = 3) (h4 : ¬ x = 4) (h5 : ¬ x = 5) (h6 : ¬ x = 6) (h7 : ¬ x = 7) (h8 : ¬ x = 8) (h9 : ¬ x = 9) (h10 : ¬ x = 10) (h11 : ¬ x = 11) (h12 : ¬ x = 12) (h13 : ¬ x = 13) (h14 : ¬ x = 14) (h15 : ¬ x = 15) : x.toInt < 2 ∨ 15 < x.toInt := by
  have k2 := ne_toInt (a := 2) h2 (by decide)
  have k3 := ne_toInt (a := 3) h3 (by decide)
  have k4 := ne_toInt (a := 4) h4 (by decide)
  have k5 := ne_toInt (a := 5) h5 (by decide)
  have k6 := ne_toInt (a := 6) h6 (by decide)
  have k7 := ne_toInt (a := 7) h7 (by decide)
  have k8 := ne_toInt (a := 8) h8 (by decide)
  have k9 := ne_toInt (a := 9) h9 (by decide)
  have k10 := ne_toInt (a := 10) h10 (by decide)
  have k11 := ne_toInt (a := 11) h11 (by decide)
  have k12 := ne_toInt (a := 12) h12 (by decide)
  have k13 := ne_toInt (a := 13) h13 (by decide)
  have k14 := ne_toInt (a := 14) h14 (by decide)
  have k15 := ne_toInt (a := 15) h15 (by decide)
  omega
theorem tb_out3_11 {x : Int32} (h3 : ¬ x = 3) (h4 : ¬ x = 4) (h5 : ¬ x = 5) (h6 : ¬ x = 6) (h7 : ¬ x = 7) (h8 : ¬ x = 8) (h9 : ¬ x = 9) (h10 : ¬ x = 10) (h11 : ¬ x = 11) (h12 : ¬ x = 12) (h13 : ¬ x = 13) : x.toInt < 3 ∨ 13 < x.toInt := by
  have k3 := ne_toInt (a := 3) h3 (by decide)
  have k4 := ne_toInt (a := 4) h4 (by decide)
  have k5 := ne_toInt (a := 5) h5 (by decide)
  have k6 := ne_toInt (a := 6) h6 (by decide)
  have k7 := ne_toInt (a := 7) h7 (by decide)
  have k8 := ne_toInt (a := 8) h8 (by decide)
  have k9 := ne_toInt (a := 9) h9 (by decide)
  have k10 := ne_toInt (a := 10) h10 (by decide)
  have k11 := ne_toInt (a := 11) h11 (by decide)
  have k12 := ne_toInt (a := 12) h12 (by decide)
  have k13 := ne_toInt (a := 13) h13 (by decide)
  omega
