/-! CALLS, ENDS, LOOPS over the world as numbers -/
theorem good_ws {y : MethodName} {yc : ByteArray} {yl : Nat} {yr : Option FieldType} (hc : Cond.code y yc yl yr ∈ gt) : GoodIn gt (Cond.code y yc yl yr :: gt) := by
  intro w h
  have hm : w ∈ gt := by
    rcases List.mem_cons.mp h with h | h
    · rw [h]; exact hc
    · exact h
  exact ⟨hm, good_of_word (gt_good hm)⟩
/-- a method's start: its arguments, the memory, the tables -/
def PcW (D : va_G) (dA : Nat → ClassId) (zz : (Nat → Nat) × (Nat → Nat)) (bs : Nat) (ly : List Lay) (av : List Value) (mm : Mm) : Array Value → State → Prop := va_Pc av (fun U => Wd D dA bs ly mm U.heap ∧ va_K D vwCl (tysW dA) U ∧ Zw zz bs U U.heap ∧ ∀ w ∈ nw, va_Nw w U)
/-- its end: what it answers, the memory behind it; what isn't the world's stays -/
def QcW (D : va_G) (dA : Nat → ClassId) (bs : Nat) (ly : List Lay) (rv : Option Value) (m1 : Mm) : Array Value → State → Outcome → State → Prop := fun _ st oc t => (oc = .returned rv ∧ Wd D dA bs ly m1 t.heap) ∧ va_F (Aq bs) st t
abbrev rmW (f n : Nat) : Room := { frames := f, cells := 0, slots := 0, locals := n }
/-- the contract of a method over the world as numbers -/
abbrev Mw (l : Launch) (D : va_G) (dA : Nat → ClassId) (zz : (Nat → Nat) × (Nat → Nat)) (bs : Nat) (ly : List Lay) (y : MethodName) (yc : ByteArray) (yl : Nat) (yr : Option FieldType) (fr lo : Nat) (av : List Value) (mm : Mm) (rv : Option Value) (m1 : Mm) : Prop :=
  Met l y (Cond.code y yc yl yr :: gt) (rmW fr lo) (PcW D dA zz bs ly av mm) (QcW D dA bs ly rv m1) 0 0 (Aq bs)
/-- what a call links: virtual, static; 'N': of a nest mate's private method -/
def MLb (y : MethodName) (yc : ByteArray) (yl : Nat) (yr : Option FieldType) (n : Nat) : Prop := (Cond.initialized y.cls ∈ gt ∧ Cond.code y yc yl yr ∈ gt) ∧ y.cls ≠ "java/lang/invoke/MethodHandle" ∧ y.cls ≠ "java/lang/invoke/VarHandle" ∧ (parseMethodDescriptor y.desc).map (fun d => d.parameters.length) = some n
def MLv (own : String) (idx : Nat) (y : MethodName) (yc : ByteArray) (yl : Nat) (yr : Option FieldType) (n : Nat) : Prop := MLb y yc yl yr n ∧ Cond.methodLink own idx y ∈ gt ∧ Cond.instanceMethod y ∈ gt ∧ Cond.selects y.cls y y ∈ gt
def MLs (own : String) (idx : Nat) (y : MethodName) (yc : ByteArray) (yl : Nat) (yr : Option FieldType) (n : Nat) : Prop := MLb y yc yl yr n ∧ Cond.methodLink own idx y ∈ gt ∧ Cond.static y ∈ gt
def MLn (own : String) (idx : Nat) (y : MethodName) (yc : ByteArray) (yl : Nat) (yr : Option FieldType) (n : Nat) : Prop := MLb y yc yl yr n ∧ (∃ host, Cond.methodLinkNest own idx y host ∈ nw) ∧ Cond.static y ∈ gt
section calls
variable {p : Program} {l : Launch} {e : Env} {R : Room} {s : State} {m : MethodId} {args : Array Value} {below : List Frame} {meth : Method} {c : Code} {H : Heap} {locs : List Loc} {cells slots : Nat} {Q : State → Prop} {cc : ByteArray} {nL : Nat} {own : String} {D : va_G} {dA : Nat → ClassId} {zz : (Nat → Nat) × (Nat → Nat)} {bs : Nat} {ly : List Lay} {mm m1 : Mm} {pc : Nat} {ls : Array Slot} {rest st0 : List Value} {y : MethodName} {yc : ByteArray} {yl idx n fr lo i ci : Nat} {yr : Option FieldType} {rv : Option Value} {As : List Value} {fl : List (Option (Option Nat))}
theorem PcW_blind {av : List Value} : FrameBlind (PcW D dA zz bs ly av mm) := fun a U g mk q => by
  obtain ⟨q0, q1, q2, q3, q4⟩ := q
  exact ⟨q0, q1, va_K.moved (u := U) (U := U.calling g mk a) (Vm.Alike.refl U.vm) q2, q3.same rfl, fun w h => nw_same (u := U) h rfl (q4 w h)⟩
theorem PcW_at {av : List Value} (X : Cx p m meth c cc nL s args own D dA zz bs) (hP : Wd D dA bs ly mm H) (hS : va_S (Aq bs) s.heap H locs) : ∀ U : State, U.heap = H → s.WarmedH U.vm → PcW D dA zz bs ly av mm av.toArray U := fun U hU hW =>
  ⟨rfl, by rw [hU]; exact hP, va_K.moved hW.alike X.2.2.2.2.2.1, by rw [hU]; exact X.2.2.2.2.2.2.1.moved hW hS, fun w h => nw_warm h hW (X.2.2.2.2.2.2.2.2 w h)⟩
theorem wd_back {a : Array Value} (hr : va_Run p l e R s m args below meth c H locs cells slots 0 0 (F0 m pc ls st0) rest (QcW D dA bs ly rv m1 a) (Aq bs)) (hS : va_S (Aq bs) s.heap H locs)
    (kk : ∀ (H1 : Heap) (locs1 : List Loc), Wd D dA bs ly m1 H1 → va_S (Aq bs) s.heap H1 locs1 → W p l e R s m args below meth c H1 locs1 cells slots Q (F0 m (pc + 3) ls (rv.toList ++ rest))) : W p l e R s m args below meth c H locs cells slots Q (F0 m pc ls st0) := by
  intro T hT X
  obtain ⟨v, st₀, t, T', L, h0, X', hL, e1, e2, ⟨⟨hv, hb⟩, hz, hk⟩, st⟩ := hr T hT X
  cases hv
  rw [h0] at hz hk
  obtain ⟨t2, a1, b1⟩ := kk T'.heap (locs ++ L) (by rw [e1]; exact hb)
    ⟨Nat.le_trans hS.1 (by rw [e1]; exact hz), fun q h1 h2 => by rw [e1, hk q (Nat.lt_of_lt_of_le h1 hS.1) h2]; exact hS.2.1 q h1 h2, fun q hq => by
      rcases List.mem_append.mp hq with h | h
      · exact hS.2.2 q h
      · exact hL q h⟩ T' rfl X'
  exact ⟨t2, st t2 a1, b1⟩
theorem MLb.ok (hB : MLb y yc yl yr n) (hts : ∀ w ∈ gt, w.before args s = true) (hl : (Cond.methodLink own idx y).before args s = true) (hR : fr + 1 ≤ R.frames ∧ 8 + (yl + 11) + lo ≤ R.locals) : CallB R s args own idx y yc yl yr (Cond.code y yc yl yr :: gt) (rmW fr lo) 0 0 n :=
  callB_of n hts (good_ws hB.1.2) rfl rfl rfl (hts _ hB.1.1) hl hB.2 hR
theorem wd_cv (X : Cx p m meth c cc nL s args own D dA zz bs) (hP : Wd D dA bs ly mm H) (hS : va_S (Aq bs) s.heap H locs) (hL : ly[i]? = some (.inl (ci, fl))) (hV : MLv own idx y yc yl yr n) (hci : ∃ (T : u_T) (N : Nat), vwCl[ci]? = some (y.cls, T, N)) (hM : Mw l D dA zz bs ly y yc yl yr fr lo (.ref (bs + i) :: As) mm rv m1) (hn : As.length = n) (hR : fr + 1 ≤ R.frames ∧ 8 + (yl + 11) + lo ≤ R.locals) (hls : ls.size = nL) (hst : st0 = As.reverse ++ .ref (bs + i) :: rest) (hW : (rest.map fun v => v.category).sum ≤ 8) (hcs : cells ≤ R.cells ∧ slots ≤ R.slots) (hdg : decode cc pc = .ok (.invokevirtual idx, 3))
    (kk : ∀ (H1 : Heap) (locs1 : List Loc), Wd D dA bs ly m1 H1 → va_S (Aq bs) s.heap H1 locs1 → W p l e R s m args below meth c H1 locs1 cells slots Q (F0 m (pc + 3) ls (rv.toList ++ rest))) : W p l e R s m args below meth c H locs cells slots Q (F0 m pc ls st0) := by
  obtain ⟨hx, hb, hml, hown, hts, hK, hZ, hlk⟩ := id X
  obtain ⟨T, N, hc⟩ := hci
  refine wd_back (va_runV (C := y.cls) (Ts := gt) ⟨hx, hb, hml, hown, hts⟩ hM ⟨hV.1.ok hts (hts _ hV.2.1) hR, hts _ hV.2.2.1, hts _ hV.2.2.2⟩ ⟨PcW_blind, va_recv hK hP hc (wsW_at hL), PcW_at X hP hS⟩ rfl hn hls hst (lv_room hW) hdg hcs) hS kk
theorem wd_cs (X : Cx p m meth c cc nL s args own D dA zz bs) (hP : Wd D dA bs ly mm H) (hS : va_S (Aq bs) s.heap H locs) (hV : MLs own idx y yc yl yr n) (hM : Mw l D dA zz bs ly y yc yl yr fr lo As mm rv m1) (hn : As.length = n) (hR : fr + 1 ≤ R.frames ∧ 8 + (yl + 11) + lo ≤ R.locals) (hls : ls.size = nL) (hst : st0 = As.reverse ++ rest) (hW : (rest.map fun v => v.category).sum ≤ 8) (hcs : cells ≤ R.cells ∧ slots ≤ R.slots) (hdg : decode cc pc = .ok (.invokestatic idx, 3))
    (kk : ∀ (H1 : Heap) (locs1 : List Loc), Wd D dA bs ly m1 H1 → va_S (Aq bs) s.heap H1 locs1 → W p l e R s m args below meth c H1 locs1 cells slots Q (F0 m (pc + 3) ls (rv.toList ++ rest))) : W p l e R s m args below meth c H locs cells slots Q (F0 m pc ls st0) := by
  obtain ⟨hx, hb, hml, hown, hts, hK, hZ, hlk⟩ := id X
  refine wd_back (va_runS (Ts := gt) ⟨hx, hb, hml, hown, hts⟩ hM ⟨hV.1.ok hts (hts _ hV.2.1) hR, hts _ hV.2.2⟩ ⟨PcW_blind, PcW_at X hP hS⟩ rfl hn hls hst (lv_room hW) hdg hcs) hS kk
theorem wd_cn (X : Cx p m meth c cc nL s args own D dA zz bs) (hP : Wd D dA bs ly mm H) (hS : va_S (Aq bs) s.heap H locs) (hV : MLn own idx y yc yl yr n) (hM : Mw l D dA zz bs ly y yc yl yr fr lo As mm rv m1) (hn : As.length = n) (hR : fr + 1 ≤ R.frames ∧ 8 + (yl + 11) + lo ≤ R.locals) (hls : ls.size = nL) (hst : st0 = As.reverse ++ rest) (hW : (rest.map fun v => v.category).sum ≤ 8) (hcs : cells ≤ R.cells ∧ slots ≤ R.slots) (hdg : decode cc pc = .ok (.invokestatic idx, 3))
    (kk : ∀ (H1 : Heap) (locs1 : List Loc), Wd D dA bs ly m1 H1 → va_S (Aq bs) s.heap H1 locs1 → W p l e R s m args below meth c H1 locs1 cells slots Q (F0 m (pc + 3) ls (rv.toList ++ rest))) : W p l e R s m args below meth c H locs cells slots Q (F0 m pc ls st0) := by
  obtain ⟨hx, hb, hml, hown, hts, hK, hZ, hlk⟩ := id X
  obtain ⟨hB, ⟨host, hl⟩, hs⟩ := hV
  refine wd_back (va_runSN (Ts := gt) ⟨hx, hb, hml, hown, hts⟩ hM ⟨va_cnB n hts (good_ws hB.1.2) rfl rfl rfl (X.2.2.2.2.2.2.2.2 _ hl) (hts _ hB.1.1) hB.2 hR, hts _ hs, trivial⟩ ⟨PcW_blind, PcW_at X hP hS⟩ rfl hn hls hst (lv_room hW) hdg hcs) hS kk
/-- ends -/
theorem wd_iret (X : Cx p m meth c cc nL s args own D dA zz bs) (hP : Wd D dA bs ly mm H) (hS : va_S (Aq bs) s.heap H locs) (hr : meth.sig.returnType = some .int) {v : Int32} (hdg : decode cc pc = .ok (.ireturn, 1)) (ho : some (Value.int v) = rv ∧ mm = m1) : W p l e R s m args below meth c H locs cells slots (MQ below (QcW D dA bs ly rv m1) args s cells slots (Aq bs)) (F0 m pc ls [.int v]) := by
  obtain ⟨h1, h2⟩ := ho
  subst h1; subst h2
  exact W.iret X.1 X.2.1 hr (fun t ht hW => ⟨⟨rfl, by rw [ht]; exact hP⟩, hS.F ht⟩) hS.2.2 hdg X.2.2.2.2.2.2.2.1
theorem wd_zret (X : Cx p m meth c cc nL s args own D dA zz bs) (hP : Wd D dA bs ly mm H) (hS : va_S (Aq bs) s.heap H locs) (hr : meth.sig.returnType = some .boolean) {v : Int32} (hz : ¬ (¬ v = 0 ∧ ¬ v = 1)) (hdg : decode cc pc = .ok (.ireturn, 1)) (ho : some (Value.int v) = rv ∧ mm = m1) : W p l e R s m args below meth c H locs cells slots (MQ below (QcW D dA bs ly rv m1) args s cells slots (Aq bs)) (F0 m pc ls [.int v]) := by
  obtain ⟨h1, h2⟩ := ho
  subst h1; subst h2
  have h : v = 0 ∨ v = 1 := by
    by_cases h0 : v = 0
    · exact Or.inl h0
    · by_cases h1 : v = 1
      · exact Or.inr h1
      · exact absurd ⟨h0, h1⟩ hz
  have hn : narrow .boolean (.int v) = .int v := by rcases h with h | h <;> subst h <;> decide
  exact W.zret X.1 X.2.1 hr hn (fun t ht hW => ⟨⟨rfl, by rw [ht]; exact hP⟩, hS.F ht⟩) hS.2.2 hdg X.2.2.2.2.2.2.2.1
theorem wd_lret (X : Cx p m meth c cc nL s args own D dA zz bs) (hP : Wd D dA bs ly mm H) (hS : va_S (Aq bs) s.heap H locs) (hr : meth.sig.returnType = some .long) {v : Int64} (hdg : decode cc pc = .ok (.lreturn, 1)) (ho : some (Value.long v) = rv ∧ mm = m1) : W p l e R s m args below meth c H locs cells slots (MQ below (QcW D dA bs ly rv m1) args s cells slots (Aq bs)) (F0 m pc ls [.long v]) := by
  obtain ⟨h1, h2⟩ := ho
  subst h1; subst h2
  exact W.lret X.1 X.2.1 hr (fun t ht hW => ⟨⟨rfl, by rw [ht]; exact hP⟩, hS.F ht⟩) hS.2.2 hdg X.2.2.2.2.2.2.2.1
theorem wd_vret (X : Cx p m meth c cc nL s args own D dA zz bs) (hP : Wd D dA bs ly mm H) (hS : va_S (Aq bs) s.heap H locs) (hr : meth.sig.returnType = none) (hdg : decode cc pc = .ok (.return_, 1)) (ho : none = rv ∧ mm = m1) : W p l e R s m args below meth c H locs cells slots (MQ below (QcW D dA bs ly rv m1) args s cells slots (Aq bs)) (F0 m pc ls []) := by
  obtain ⟨h1, h2⟩ := ho
  subst h1; subst h2
  exact W.vret X.1 X.2.1 hr (fun t ht hW => ⟨⟨rfl, by rw [ht]; exact hP⟩, hS.F ht⟩) hS.2.2 hdg X.2.2.2.2.2.2.2.1
/-- a method's contract out of its walk -/
theorem Mw.of {av : List Value} (hy : plainName y.cls = true) (hcl : y.cls = own) (hlen : (lg_sl av).length ≤ yl)
    (body : ∀ p e s m args below meth c, Cx p m meth c yc yl s args own D dA zz bs → meth.sig.returnType = yr → Wd D dA bs ly mm s.heap → va_S (Aq bs) s.heap s.heap [] → ∀ ls, lv_has ls yl (lv_args 0 av) →
      W p l e (rmW fr lo) s m args below meth c s.heap [] 0 0 (MQ below (QcW D dA bs ly rv m1) args s 0 0 (Aq bs)) (F0 m 0 ls [])) : Mw l D dA zz bs ly y yc yl yr fr lo av mm rv m1 := by
  refine Met.ofW (cc := yc) (maxL := yl) (ret := yr) hy rfl ?_
  intro p e s m args below meth c s₁ B hml hv
  obtain ⟨rfl, hP, hK, hZ, hN⟩ := hv
  have hts := atoms_spec (ws := Cond.code y yc yl yr :: gt) B.pre
  have hown : s.vm.findClass own = some m.cls := by rw [← hcl]; exact findClass_of_methodNamed B.named
  have hl := lv_entry av hlen
  rw [lg_entry_eq]
  exact body p e s m _ below meth c ⟨B.exec, B.bytes, hml, hown, fun w h => hts w (List.mem_cons_of_mem _ h), hK, hZ, B.notSynchronized, hN⟩ B.returns hP va_S.rf _ hl
end calls
/-! LOOPS: a step that goes on (inl) or leaves (inr), as often as it takes -/
def lpN {σ ρ : Type} (st : σ → Option (σ ⊕ ρ)) : Nat → σ → Option ρ
  | 0, _ => none
  | n + 1, x => match st x with
    | none => none
    | some (.inl y) => lpN st n y
    | some (.inr r) => some r
theorem lpN_mono {σ ρ : Type} {st : σ → Option (σ ⊕ ρ)} : ∀ {n : Nat} {x : σ} {r : ρ} (k : Nat), lpN st n x = some r → lpN st (n + k) x = some r := by
  intro n
  induction n with
  | zero => intro x r k h; cases h
  | succ n ih =>
    intro x r k h
    rw [show n + 1 + k = (n + k) + 1 from by omega]
    unfold lpN at h ⊢
    cases hs : st x with
    | none => rw [hs] at h; cases h
    | some q =>
      rw [hs] at h
      cases q with
      | inl y => exact ih k h
      | inr z => exact h
theorem lpN_one {σ ρ : Type} {st : σ → Option (σ ⊕ ρ)} {n k : Nat} {x : σ} {r r' : ρ} (h : lpN st n x = some r) (h' : lpN st k x = some r') : r = r' := by
  have h1 := lpN_mono k h
  have h2 := lpN_mono n h'
  rw [Nat.add_comm] at h2
  rw [h1] at h2
  exact Option.some.inj h2
noncomputable def lp {σ ρ : Type} (st : σ → Option (σ ⊕ ρ)) (x : σ) : Option ρ :=
  @dite _ (∃ r : ρ, ∃ n : Nat, lpN st n x = some r) (Classical.propDecidable _) (fun h => some (Classical.choose h)) (fun _ => none)
theorem lp_iff {σ ρ : Type} {st : σ → Option (σ ⊕ ρ)} {x : σ} {r : ρ} : lp st x = some r ↔ ∃ n : Nat, lpN st n x = some r := by
  unfold lp
  constructor
  · intro h
    split at h
    · rename_i hh
      cases h
      exact Classical.choose_spec hh
    · cases h
  · rintro ⟨n, h⟩
    split
    · rename_i hh
      obtain ⟨k, hk⟩ := Classical.choose_spec hh
      rw [lpN_one hk h]
    · rename_i hh
      exact absurd ⟨r, n, h⟩ hh
theorem lp_eq {σ ρ : Type} (st : σ → Option (σ ⊕ ρ)) (x : σ) : lp st x = match st x with
    | none => none
    | some (.inl y) => lp st y
    | some (.inr r) => some r := by
  apply Option.ext
  intro r
  rw [lp_iff]
  constructor
  · rintro ⟨n, h⟩
    cases n with
    | zero => cases h
    | succ n =>
      unfold lpN at h
      cases hs : st x with
      | none => rw [hs] at h; cases h
      | some q =>
        rw [hs] at h
        cases q with
        | inl y => exact lp_iff.mpr ⟨n, h⟩
        | inr z => exact h
  · intro h
    cases hs : st x with
    | none => rw [hs] at h; cases h
    | some q =>
      rw [hs] at h
      cases q with
      | inl y =>
        obtain ⟨n, hn⟩ := lp_iff.mp h
        exact ⟨n + 1, by unfold lpN; rw [hs]; exact hn⟩
      | inr z => exact ⟨1, by unfold lpN; rw [hs]; exact h⟩
theorem lp_go {σ ρ : Type} {st : σ → Option (σ ⊕ ρ)} {x y : σ} (h : st x = some (.inl y)) : lp st x = lp st y := by rw [lp_eq, h]
theorem lp_end {σ ρ : Type} {st : σ → Option (σ ⊕ ρ)} {x : σ} {r : ρ} (h : st x = some (.inr r)) : lp st x = some r := by rw [lp_eq, h]
/-- a loop of the machine walked by its step -/
theorem lp_walk {σ ρ : Type} {st : σ → Option (σ ⊕ ρ)} (Wh : σ → Prop) (Ph : ρ → Prop) (hs : ∀ (x : σ) (o : σ ⊕ ρ), st x = some o → (∀ y, o = .inl y → Wh y) → (∀ r, o = .inr r → Ph r) → Wh x) {x : σ} {r : ρ} (h : lp st x = some r) (hr : Ph r) : Wh x := by
  obtain ⟨n, hn⟩ := lp_iff.mp h
  clear h
  revert x
  induction n with
  | zero => intro x h; cases h
  | succ n ih =>
    intro x h
    unfold lpN at h
    cases hx : st x with
    | none => rw [hx] at h; cases h
    | some q =>
      rw [hx] at h
      cases q with
      | inl y => exact hs x _ hx (fun z hz => by cases hz; exact ih h) (fun z hz => by cases hz)
      | inr z =>
        cases h
        exact hs x _ hx (fun z hz => by cases hz) (fun z hz => by cases hz; exact hr)
def vlet {α β : Type} (a : α) (k : α → β) : β := k a
theorem vl {α β : Type} {a x : α} {k : α → β} {o : β} (h : vlet a k = o) (e : x = a) : k x = o := by rw [e]; exact h
theorem itT {β : Type} {c : Prop} {i : Decidable c} {a b o : β} (h : (if c then a else b) = o) (hc : c) : a = o := by rw [if_pos hc] at h; exact h
theorem itF {β : Type} {c : Prop} {i : Decidable c} {a b o : β} (h : (if c then a else b) = o) (hc : ¬ c) : b = o := by rw [if_neg hc] at h; exact h
theorem gdN {β : Type} {c : Prop} {i : Decidable c} {a : Option β} {o : β} (h : (if c then none else a) = some o) : ¬ c := fun hc => by rw [if_pos hc] at h; cases h
theorem gdK {β : Type} {c : Prop} {i : Decidable c} {a : Option β} {o : β} (h : (if c then none else a) = some o) : a = some o := by rw [if_neg (gdN h)] at h; exact h
def bi2 {α β γ : Type} (o : Option (α × β)) (k : α → β → Option γ) : Option γ := match o with
  | none => none
  | some q => k q.1 q.2
theorem bi2S {α β γ : Type} {o : Option (α × β)} {k : α → β → Option γ} {x : γ} (h : bi2 o k = some x) : ∃ a b, o = some (a, b) ∧ k a b = some x := by
  cases o with
  | none => cases h
  | some q => exact ⟨q.1, q.2, rfl, h⟩
def bi1 {α γ : Type} (o : Option α) (k : α → Option γ) : Option γ := match o with
  | none => none
  | some q => k q
theorem bi1S {α γ : Type} {o : Option α} {k : α → Option γ} {x : γ} (h : bi1 o k = some x) : ∃ a, o = some a ∧ k a = some x := by
  cases o with
  | none => cases h
  | some q => exact ⟨q, rfl, h⟩
