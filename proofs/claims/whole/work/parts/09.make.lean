/-! MAKING CELLS: the world grows at its end -/
def mz : Mm := (fun _ _ => 0, fun _ _ => 0)
def Wk (D : va_G) (dA : Nat → ClassId) (bs : Nat) (ly : List Lay) (mm : Mm) (H : Heap) : Prop := Wd D dA bs ly mm H ∧ H.size = bs + ly.length
def aoL : List String := ["PartyRaft$State", "PartyRaft$Rule", "PartyRaft$Raft"]
def Zr (mm : Mm) (i : Nat) : Prop := mm.1 i = (fun _ => 0) ∧ mm.2 i = (fun _ => 0)
theorem wsW_push {dA : Nat → ClassId} {bs : Nat} {ly : List Lay} {m : Mm} {y : Lay} : wsW dA bs (ly ++ [y]) m = wsW dA bs ly m ++ [(bs + ly.length, ent dA bs m ly.length y)] := by
  apply List.ext_getElem?
  intro j
  rcases Nat.lt_trichotomy j ly.length with h | h | h
  · have hy : ly[j]? = some ly[j] := List.getElem?_eq_getElem h
    rw [wsW_at (y := ly[j]) (by rw [List.getElem?_append_left h]; exact hy), List.getElem?_append_left (by rw [wsW_len]; exact h), wsW_at hy]
  · subst h
    rw [wsW_at (y := y) (by rw [List.getElem?_append_right (Nat.le_refl _)]; simp), List.getElem?_append_right (by rw [wsW_len]; exact Nat.le_refl _), wsW_len]
    simp
  · rw [List.getElem?_eq_none (by rw [wsW_len, List.length_append]; simp; omega), List.getElem?_eq_none (by rw [List.length_append, wsW_len]; simp; omega)]
theorem Wk.push {D : va_G} {dA : Nat → ClassId} {bs : Nat} {ly : List Lay} {mm : Mm} {H H1 : Heap} {y : Lay} (hP : Wk D dA bs ly mm H) (o1 : ∀ q : Nat, q < H.size → H1[q]? = H[q]?) (z1 : H1.size = H.size + 1) (e1 : va_at D vwCl (bs + ly.length, ent dA bs mm ly.length y) H1) : Wk D dA bs (ly ++ [y]) mm H1 := by
  refine ⟨?_, by rw [z1, hP.2, List.length_append]; simp; omega⟩
  unfold Wd
  rw [wsW_push]
  have hk : ∀ (k : Nat) (x : Nat × va_E), (wsW dA bs ly mm)[k]? = some x → H1[x.1]? = H[x.1]? := fun k x hx => o1 x.1 ((hP.1 k x hx).lt)
  refine (va_P.kept hP.1 hk).app (fun k x hx => ?_)
  have hz : k < 1 := (List.getElem?_eq_some_iff.mp hx).1
  rw [show k = 0 by omega] at hx
  cases hx
  exact e1
/-- one cell of the layout changed -/
theorem wsW_lay {dA : Nat → ClassId} {bs : Nat} {ly : List Lay} {m : Mm} {i : Nat} {y : Lay} (hi : i < ly.length) : (wsW dA bs ly m).set i (bs + i, ent dA bs m i y) = wsW dA bs (ly.set i y) m := by
  apply List.ext_getElem?
  intro j
  rw [List.getElem?_set]
  by_cases hj : i = j
  · subst hj
    rw [if_pos rfl, wsW_len, if_pos hi, wsW_at (y := y) (by rw [List.getElem?_set]; simp [hi])]
  · rw [if_neg hj]
    by_cases hl : j < ly.length
    · have hy : ly[j]? = some ly[j] := List.getElem?_eq_getElem hl
      rw [wsW_at hy, wsW_at (y := ly[j]) (by rw [List.getElem?_set, if_neg hj]; exact hy)]
    · rw [List.getElem?_eq_none (by rw [wsW_len]; omega), List.getElem?_eq_none (by rw [wsW_len, List.length_set]; omega)]
theorem fvs_setR {bs : Nat} {g : Nat → Int32} {l : List (Option (Option Nat))} {k q : Nat} {y : Option Nat} (h : l[k]? = some (some y)) : (fvs bs g l).set k (.ref (bs + q)) = fvs bs g (l.set k (some (some q))) := by
  have hk : k < l.length := (List.getElem?_eq_some_iff.mp h).1
  apply List.ext_getElem?
  intro j
  rw [List.getElem?_set]
  by_cases hj : k = j
  · subst hj
    rw [if_pos rfl, fvs_at (y := some (some q)) (by rw [List.getElem?_set]; simp [hk]), if_pos (by simp [fvs, hk])]
    rfl
  · rw [if_neg hj]
    by_cases hl : j < l.length
    · have hy : l[j]? = some l[j] := List.getElem?_eq_getElem hl
      rw [fvs_at hy, fvs_at (y := l[j]) (by rw [List.getElem?_set, if_neg hj]; exact hy)]
    · rw [List.getElem?_eq_none (by simp [fvs]; omega), List.getElem?_eq_none (by simp [fvs]; omega)]
def CxK (p : Program) (m : MethodId) (meth : Method) (c : Code) (cc : ByteArray) (nL : Nat) (s : State) (args : Array Value) (own : String) (D : va_G) (dA : Nat → ClassId) (zz : (Nat → Nat) × (Nat → Nat)) (bs : Nat) : Prop := Cx p m meth c cc nL s args own D dA zz bs ∧ (∀ C ∈ aoL, va_AO C s) ∧ bs ≤ s.heap.size
def PcK (D : va_G) (dA : Nat → ClassId) (zz : (Nat → Nat) × (Nat → Nat)) (bs : Nat) (ly : List Lay) (av : List Value) (mm : Mm) : Array Value → State → Prop := va_Pc av (fun U => Wk D dA bs ly mm U.heap ∧ va_K D vwCl (tysW dA) U ∧ Zw zz bs U U.heap ∧ (∀ w ∈ nw, va_Nw w U) ∧ ∀ C ∈ aoL, va_AO C U)
def QcK (D : va_G) (dA : Nat → ClassId) (bs : Nat) (ly : List Lay) (mm : Mm) : Array Value → State → Outcome → State → Prop := fun _ st oc t => (oc = .returned none ∧ Wk D dA bs ly mm t.heap) ∧ va_F (Aq bs) st t
abbrev rmK (f n mc ms : Nat) : Room := { frames := f, cells := mc, slots := ms, locals := n }
abbrev Mk (l : Launch) (D : va_G) (dA : Nat → ClassId) (zz : (Nat → Nat) × (Nat → Nat)) (bs : Nat) (y : MethodName) (yc : ByteArray) (yl fr lo mc ms : Nat) (av : List Value) (ly : List Lay) (mm : Mm) (ly1 : List Lay) (m1 : Mm) : Prop :=
  Met l y (Cond.code y yc yl none :: gt) (rmK fr lo mc ms) (PcK D dA zz bs ly av mm) (QcK D dA bs ly1 m1) mc ms (Aq bs)
/-- what 'new' names -/
def NWk (own : String) (idx ci : Nat) (fl : List (Option (Option Nat))) (N : Nat) : Prop := ∃ (C : String) (T : u_T) (ty : Nat → FieldType), vwCl[ci]? = some (C, T, N) ∧ (∀ w ∈ u_ws C T N, w ∈ gt) ∧ (∀ k, k < N → parseFieldDescriptor (T k).2.2.1 = some (ty k)) ∧ Cond.classLink own idx C ∈ gt ∧ Cond.instantiable C N ∈ gt ∧ Cond.initialized C ∈ gt ∧ ∀ (bs j : Nat), j < N → defaultValue (ty j) = vp_V (fvs bs (fun _ => 0) fl) j
/-- a final field that a constructor writes -/
def FLf (own : String) (idx ci k : Nat) : Prop := ∃ (C : String) (T : u_T) (N : Nat) (ty0 : Nat → FieldType), vwCl[ci]? = some (C, T, N) ∧ (∀ w ∈ u_ws C T N, w ∈ gt) ∧ k < N ∧ Cond.fieldLink own idx (T k).1 (T k).2.1 (T k).2.2.1 ∈ gt ∧ (∀ k, k < N → parseFieldDescriptor (T k).2.2.1 = some (ty0 k)) ∧ (∀ a, a < N → ∀ b, b < N → a ≠ b → (T a).2.1 ≠ (T b).2.1) ∧ (T k).2.2.2 = true ∧ (T k).1 = own ∧ (∀ a, narrow (ty0 k) (.ref a) = .ref a) ∧ ∀ a, fits (ty0 k) (.ref a) = true
section make
variable {p : Program} {l : Launch} {e : Env} {R : Room} {s : State} {m : MethodId} {args : Array Value} {below : List Frame} {meth : Method} {c : Code} {H : Heap} {locs : List Loc} {cells slots : Nat} {Q : State → Prop} {cc : ByteArray} {nL : Nat} {own : String} {D : va_G} {dA : Nat → ClassId} {zz : (Nat → Nat) × (Nat → Nat)} {bs : Nat} {ly ly1 : List Lay} {mm m1 : Mm} {pc : Nat} {ls : Array Slot} {rest st0 : List Value} {y : MethodName} {yc : ByteArray} {yl idx n fr lo mc ms : Nat} {As : List Value}
theorem grow_S {H1 : Heap} (hS : va_S (Aq bs) s.heap H locs) (o1 : ∀ q : Nat, q < H.size → H1[q]? = H[q]?) (z1 : H1.size = H.size + 1) : va_S (Aq bs) s.heap H1 locs :=
  ⟨Nat.le_trans hS.1 (by omega), fun x h1 h2 => (o1 x (Nat.lt_of_lt_of_le h1 hS.1)).trans (hS.2.1 x h1 h2), hS.2.2⟩
theorem wk_new (X : CxK p m meth c cc nL s args own D dA zz bs) (hP : Wk D dA bs ly mm H) (hS : va_S (Aq bs) s.heap H locs) {ci N : Nat} {fl : List (Option (Option Nat))} (hn : NWk own idx ci fl N) (hz : Zr mm ly.length) (hcells : cells + 1 ≤ R.cells) (hslots : slots + N ≤ R.slots) (hdg : decode cc pc = .ok (.new idx, 3))
    (kk : ∀ H1 : Heap, Wk D dA bs (ly ++ [.inl (ci, fl)]) mm H1 → va_S (Aq bs) s.heap H1 locs → W p l e R s m args below meth c H1 locs (cells + 1) (slots + N) Q (F0 m (pc + 3) ls (.ref (bs + ly.length) :: rest))) : W p l e R s m args below meth c H locs cells slots Q (F0 m pc ls rest) := by
  obtain ⟨⟨hx, hb, -, hown, hts, hK, -⟩, -, -⟩ := X
  obtain ⟨C, T, ty, hc, hin, hty, h1, h2, h3, hfs⟩ := hn
  have hKn := hK.1 ci _ hc
  refine W.newcK hx hb hown (hts _ h1) (hts _ h2) (hts _ h3) rfl hdg hcells hslots hKn.2.1 hP.2 fun H1 kC hkC e1 z1 o1 => ?_
  rw [← hP.2] at o1 z1
  refine kk H1 (hP.push o1 z1 ?_) (grow_S hS o1 z1)
  refine ⟨_, hc, (u_born ty hts hin hKn hkC e1 hty).to (fun j hj => ?_)⟩
  rw [hfs bs j hj]
  show _ = vp_V (fvs bs (mm.1 ly.length) fl) j
  rw [hz.1]
theorem RA_one {t : Nat} {ty : FieldType} {cA : ClassId} (hK : va_K D vwCl (tysW dA) s) (ht : (tysW dA)[t]? = some (dA t, ty)) (hRA : ∀ c : ClassId, va_RA s c ty → s.vm.findClass ("[" ++ ty.toString) = some c) (h : s.vm.findClass ("[" ++ ty.toString) = some cA) : cA = dA t := by
  have h1 := hRA _ (hK.2 t _ ht).2
  rw [h] at h1
  exact Option.some.inj h1
theorem wk_newa {atype : ArrayType} {t : Nat} {ty : FieldType} (X : CxK p m meth c cc nL s args own D dA zz bs) (hP : Wk D dA bs ly mm H) (hS : va_S (Aq bs) s.heap H locs) (hw : Cond.arrayClass (newarray.typeOf atype) ∈ gt) (hty : newarray.typeOf atype = ty) (ht : (tysW dA)[t]? = some (dA t, ty)) (hRA : ∀ c : ClassId, va_RA s c ty → s.vm.findClass ("[" ++ ty.toString) = some c) {x : Int32} {N : Nat} (ha : ∀ cA : ClassId, vp_cell cA (N, arV bs mm ly.length t ng) = arrV cA N (fun _ => defaultValue ty)) (hx0 : ¬ x < 0) (hN : x.toNatClampNeg = N) (hby : N * componentBytes ty ≤ 536870912) (hcells : cells + 1 ≤ R.cells) (hslots : slots + N ≤ R.slots) (hdg : decode cc pc = .ok (.newarray atype, 2))
    (kk : ∀ H1 : Heap, Wk D dA bs (ly ++ [.inr (t, N, ng)]) mm H1 → va_S (Aq bs) s.heap H1 locs → W p l e R s m args below meth c H1 locs (cells + 1) (slots + N) Q (F0 m (pc + 2) ls (.ref (bs + ly.length) :: rest))) : W p l e R s m args below meth c H locs cells slots Q (F0 m pc ls (.int x :: rest)) := by
  obtain ⟨⟨hx, hb, -, hown, hts, hK, -⟩, -, -⟩ := X
  subst hty
  refine va_newaK hx hb (hts _ hw) rfl hdg rfl hx0 hN hby hcells hslots hP.2 fun H1 cA e1 z1 o1 hAr hNm => ?_
  rw [← hP.2] at o1 z1
  have hcA := RA_one hK ht hRA hNm
  subst hcA
  refine kk H1 (hP.push o1 z1 ?_) (grow_S hS o1 z1)
  show H1[bs + ly.length]? = some (vp_cell (dA t) (N, arV bs mm ly.length t ng))
  rw [ha]
  exact e1
theorem wk_newI (X : CxK p m meth c cc nL s args own D dA zz bs) (hP : Wk D dA bs ly mm H) (hS : va_S (Aq bs) s.heap H locs) (hw : Cond.arrayClass .int ∈ gt) (hz : Zr mm ly.length) {x : Int32} {N : Nat} (hx0 : ¬ x < 0) (hN : x.toNatClampNeg = N) (hby : N * 4 ≤ 536870912) (hcells : cells + 1 ≤ R.cells) (hslots : slots + N ≤ R.slots) (hdg : decode cc pc = .ok (.newarray .int, 2))
    (kk : ∀ H1 : Heap, Wk D dA bs (ly ++ [.inr (0, N, ng)]) mm H1 → va_S (Aq bs) s.heap H1 locs → W p l e R s m args below meth c H1 locs (cells + 1) (slots + N) Q (F0 m (pc + 2) ls (.ref (bs + ly.length) :: rest))) : W p l e R s m args below meth c H locs cells slots Q (F0 m pc ls (.int x :: rest)) :=
  wk_newa (atype := .int) (t := 0) (ty := .int) X hP hS hw rfl rfl (fun _ h => h) (fun cA => by rw [show arV bs mm ly.length 0 ng = .inl (fun _ => 0) from by unfold arV; rw [if_pos (by decide), hz.1]]; rfl) hx0 hN hby hcells hslots hdg kk
theorem wk_newB (X : CxK p m meth c cc nL s args own D dA zz bs) (hP : Wk D dA bs ly mm H) (hS : va_S (Aq bs) s.heap H locs) (hw : Cond.arrayClass .byte ∈ gt) (hz : Zr mm ly.length) {x : Int32} {N : Nat} (hx0 : ¬ x < 0) (hN : x.toNatClampNeg = N) (hby : N * 1 ≤ 536870912) (hcells : cells + 1 ≤ R.cells) (hslots : slots + N ≤ R.slots) (hdg : decode cc pc = .ok (.newarray .byte, 2))
    (kk : ∀ H1 : Heap, Wk D dA bs (ly ++ [.inr (1, N, ng)]) mm H1 → va_S (Aq bs) s.heap H1 locs → W p l e R s m args below meth c H1 locs (cells + 1) (slots + N) Q (F0 m (pc + 2) ls (.ref (bs + ly.length) :: rest))) : W p l e R s m args below meth c H locs cells slots Q (F0 m pc ls (.int x :: rest)) :=
  wk_newa (atype := .byte) (t := 1) (ty := .byte) X hP hS hw rfl rfl (fun _ h => h) (fun cA => by rw [show arV bs mm ly.length 1 ng = .inl (fun _ => 0) from by unfold arV; rw [if_pos (by decide), hz.1]]; rfl) hx0 hN hby hcells hslots hdg kk
theorem wk_newZ (X : CxK p m meth c cc nL s args own D dA zz bs) (hP : Wk D dA bs ly mm H) (hS : va_S (Aq bs) s.heap H locs) (hw : Cond.arrayClass .boolean ∈ gt) (hz : Zr mm ly.length) {x : Int32} {N : Nat} (hx0 : ¬ x < 0) (hN : x.toNatClampNeg = N) (hby : N * 1 ≤ 536870912) (hcells : cells + 1 ≤ R.cells) (hslots : slots + N ≤ R.slots) (hdg : decode cc pc = .ok (.newarray .boolean, 2))
    (kk : ∀ H1 : Heap, Wk D dA bs (ly ++ [.inr (2, N, ng)]) mm H1 → va_S (Aq bs) s.heap H1 locs → W p l e R s m args below meth c H1 locs (cells + 1) (slots + N) Q (F0 m (pc + 2) ls (.ref (bs + ly.length) :: rest))) : W p l e R s m args below meth c H locs cells slots Q (F0 m pc ls (.int x :: rest)) :=
  wk_newa (atype := .boolean) (t := 2) (ty := .boolean) X hP hS hw rfl rfl (fun _ h => h) (fun cA => by rw [show arV bs mm ly.length 2 ng = .inl (fun _ => 0) from by unfold arV; rw [if_pos (by decide), hz.1]]; rfl) hx0 hN hby hcells hslots hdg kk
theorem wk_newJ (X : CxK p m meth c cc nL s args own D dA zz bs) (hP : Wk D dA bs ly mm H) (hS : va_S (Aq bs) s.heap H locs) (hw : Cond.arrayClass .long ∈ gt) (hz : Zr mm ly.length) {x : Int32} {N : Nat} (hx0 : ¬ x < 0) (hN : x.toNatClampNeg = N) (hby : N * 8 ≤ 536870912) (hcells : cells + 1 ≤ R.cells) (hslots : slots + N ≤ R.slots) (hdg : decode cc pc = .ok (.newarray .long, 2))
    (kk : ∀ H1 : Heap, Wk D dA bs (ly ++ [.inr (3, N, ng)]) mm H1 → va_S (Aq bs) s.heap H1 locs → W p l e R s m args below meth c H1 locs (cells + 1) (slots + N) Q (F0 m (pc + 2) ls (.ref (bs + ly.length) :: rest))) : W p l e R s m args below meth c H locs cells slots Q (F0 m pc ls (.int x :: rest)) :=
  wk_newa (atype := .long) (t := 3) (ty := .long) X hP hS hw rfl rfl (fun _ h => h) (fun cA => by rw [show arV bs mm ly.length 3 ng = .inr (.inl (fun _ => 0)) from by unfold arV; rw [if_neg (by decide), if_pos rfl, hz.2]]; rfl) hx0 hN hby hcells hslots hdg kk
theorem wk_newq {t : Nat} {C : String} (X : CxK p m meth c cc nL s args own D dA zz bs) (hP : Wk D dA bs ly mm H) (hS : va_S (Aq bs) s.heap H locs) (hw : Cond.classLink own idx C ∈ gt) (hC : C ∈ aoL) (ht : (tysW dA)[t]? = some (dA t, .object C)) (ht3 : ¬ t < 3 ∧ ¬ t = 3) {x : Int32} {N : Nat} (hx0 : ¬ x < 0) (hN : x.toNatClampNeg = N) (hby : N * 4 ≤ 536870912) (hcells : cells + 1 ≤ R.cells) (hslots : slots + N ≤ R.slots) (hdg : decode cc pc = .ok (.anewarray idx, 3))
    (kk : ∀ H1 : Heap, Wk D dA bs (ly ++ [.inr (t, N, ng)]) mm H1 → va_S (Aq bs) s.heap H1 locs → W p l e R s m args below meth c H1 locs (cells + 1) (slots + N) Q (F0 m (pc + 3) ls (.ref (bs + ly.length) :: rest))) : W p l e R s m args below meth c H locs cells slots Q (F0 m pc ls (.int x :: rest)) := by
  obtain ⟨⟨hx, hb, -, hown, hts, hK, -⟩, hao, -⟩ := X
  subst hN
  refine W.anew hx hb hown (hts _ hw) (va_AO.use (hao C hC)) rfl hdg rfl hx0 hby hcells hslots fun cA kA comp f1 f2 f3 f4 => ?_
  generalize hH1 : H.push ({ cls := cA, slots := Array.replicate x.toNatClampNeg .null, vm := .none } : Cell) = H1
  have z1 : H1.size = H.size + 1 := by rw [← hH1, Array.size_push]
  have e1 : H1[H.size]? = some (arrV cA x.toNatClampNeg (fun _ => .null)) := by rw [← hH1, Array.getElem?_push_size, ← arrV_new]
  have o1 : ∀ q : Nat, q < H.size → H1[q]? = H[q]? := fun q hq => by rw [← hH1, Array.getElem?_push, if_neg (Nat.ne_of_lt hq)]
  have hcA : cA = dA t := RA_one hK ht (fun c h => by obtain ⟨_, _, _, _, _, h4⟩ := h; exact h4) f1
  subst hcA
  rw [hP.2]
  refine kk H1 (hP.push o1 z1 ?_) (grow_S hS o1 z1)
  show H1[bs + ly.length]? = some (vp_cell (dA t) (x.toNatClampNeg, arV bs mm ly.length t ng))
  rw [show arV bs mm ly.length t ng = .inr (.inr (.inr (.inr (fun _ => none)))) from by unfold arV; rw [if_neg ht3.1, if_neg ht3.2]; rfl, ← hP.2]
  exact e1
theorem wk_putR (X : CxK p m meth c cc nL s args own D dA zz bs) (hin : meth.name = "<init>") (hP : Wk D dA bs ly mm H) (hS : va_S (Aq bs) s.heap H locs) {i ci k q : Nat} {fl : List (Option (Option Nat))} (hL : ly[i]? = some (.inl (ci, fl))) (hf : FLf own idx ci k) {y0 : Option Nat} (hk : fl[k]? = some (some y0)) (hdg : decode cc pc = .ok (.putfield idx, 3))
    (kk : ∀ (H1 : Heap) (locs1 : List Loc), Wk D dA bs (ly.set i (.inl (ci, fl.set k (some (some q))))) mm H1 → va_S (Aq bs) s.heap H1 locs1 → W p l e R s m args below meth c H1 locs1 cells slots Q (F0 m (pc + 3) ls rest)) : W p l e R s m args below meth c H locs cells slots Q (F0 m pc ls (.ref (bs + q) :: .ref (bs + i) :: rest)) := by
  obtain ⟨⟨hx, hb, -, hown, hts, hK, -⟩, -, -⟩ := X
  obtain ⟨C, T, N, ty0, h1, h2, h3, h4, h5, h6, h7, h8, h9, h10⟩ := hf
  have hi : i < ly.length := (List.getElem?_eq_some_iff.mp hL).1
  have hlen : k < (fvs bs (mm.1 i) fl).length := by
    have := (List.getElem?_eq_some_iff.mp hk).1
    simpa [fvs] using this
  have hap := va_apart (own := own) hts h2 ty0 h5 h6 hK h1
  obtain ⟨r, hr1, cell, q1, q2, q3, q4⟩ := hP.1 i _ (wsW_at hL)
  have hr : r = (C, T, N) := Option.some.inj (hr1.symm.trans h1)
  subst hr
  obtain ⟨hSl, hfc, kC, hkC, hkind⟩ := hK.1 ci _ h1
  obtain ⟨cf, kf, fi, f, hi2, hsl⟩ := hSl k h3
  have hlay := hts _ (h2 _ (u_in_lay h3))
  unfold u_lay at hlay
  rw [if_pos h7] at hlay
  have hst := (u_facts hfc hkC (u_lays hts h2 h3) hi2).1
  have hcf : m.cls = cf := by
    obtain ⟨_, _, c', _, _, _, -, -, hf', -, -, -, hown2, -⟩ := Cond.laysFinal_spec hlay
    have e1 : c' = cf := by have := hi2.symm.trans hf'; simp at this; exact this.1.symm
    rw [h8] at hown2
    rw [← e1]; exact Option.some.inj (hown.symm.trans hown2)
  have hft := u_fits hfc hkC hkind (Or.inr hlay) hi2 (h5 k h3) (h9 (bs + q)) (h10 (bs + q))
  refine W.putFinK hx hb hown (hts _ h4) hi2 hst hcf hin (by rw [q2]; exact hft) q1 q3 (by rw [hsl]; exact k2_hasslot (q4 k h3)) rfl rfl hdg fun H' e1 e2 e3 => ?_
  rw [hsl] at e1 ⊢
  have hP1 : va_P D vwCl ((wsW dA bs ly mm).set i (bs + i, .inr (ci, (fvs bs (mm.1 i) fl).set k (.ref (bs + q))))) H' := va_P.set hP.1 wsW_D (wsW_at hL) ⟨_, h1, t_OB.to (V := updV (vp_V (fvs bs (mm.1 i) fl)) k (.ref (bs + q))) ⟨_, e1, q2, q3, t_set q4 hap h3 (.ref (bs + q))⟩ (fun j _ => vp_updV_set hlen (.ref (bs + q)) j)⟩ e3
  refine kk H' _ ⟨?_, by rw [e2, hP.2, List.length_set]⟩ (hS.put e2 e3 (wsW_D.2 i _ (wsW_at (dA := dA) (m := mm) hL)))
  unfold Wd
  rw [← wsW_lay hi]
  show va_P D vwCl ((wsW dA bs ly mm).set i (bs + i, .inr (ci, fvs bs (mm.1 i) (fl.set k (some (some q)))))) H'
  rw [← fvs_setR hk]
  exact hP1
theorem wk_putI (X : CxK p m meth c cc nL s args own D dA zz bs) (hP : Wk D dA bs ly mm H) (hS : va_S (Aq bs) s.heap H locs) {i ci k : Nat} {fl : List (Option (Option Nat))} (hL : ly[i]? = some (.inl (ci, fl))) (hf : FLp own idx ci k .int) (hk : fl[k]? = some none) {x : Int32} (hdg : decode cc pc = .ok (.putfield idx, 3))
    (kk : ∀ (H1 : Heap) (locs1 : List Loc), Wk D dA bs ly (wI mm i k x) H1 → va_S (Aq bs) s.heap H1 locs1 → W p l e R s m args below meth c H1 locs1 cells slots Q (F0 m (pc + 3) ls rest)) : W p l e R s m args below meth c H locs cells slots Q (F0 m pc ls (.int x :: .ref (bs + i) :: rest)) := by
  obtain ⟨⟨hx, hb, -, hown, hts, hK, -⟩, -, -⟩ := X
  obtain ⟨C, T, N, ty0, h1, h2, h3, h4, h5, h6, h7, h8⟩ := hf
  have hlen : k < (fvs bs (mm.1 i) fl).length := by
    have := (List.getElem?_eq_some_iff.mp hk).1
    simpa [fvs] using this
  have hap := va_apart (own := own) hts h2 ty0 h5 h6 hK h1
  obtain ⟨r, hr1, cell, q1, q2, q3, q4⟩ := hP.1 i _ (wsW_at hL)
  have hr : r = (C, T, N) := Option.some.inj (hr1.symm.trans h1)
  subst hr
  obtain ⟨hSl, hfc, kC, hkC, hkind⟩ := hK.1 ci _ h1
  obtain ⟨cf, kf, fi, f, hi2, hsl⟩ := hSl k h3
  have hlay := hts _ (h2 _ (u_in_lay h3))
  unfold u_lay at hlay
  rw [if_neg (by rw [h7]; decide)] at hlay
  have hst := (u_facts hfc hkC (u_lays hts h2 h3) hi2).1
  have hft := u_store (v := .int x) hfc hkC hkind hlay hi2 (h5 k h3) (by rw [h8]; rfl) (by rw [h8]; rfl)
  refine W.putK hx hb (f := f) ⟨hown, hts _ h4, ⟨_, _, _, hi2⟩, hst⟩ (by rw [q2]; exact hft) q1 q3 (by rw [hsl]; exact k2_hasslot (q4 k h3)) rfl rfl hdg fun H' e1 e2 e3 => ?_
  rw [hsl] at e1 ⊢
  have hP1 : va_P D vwCl ((wsW dA bs ly mm).set i (bs + i, .inr (ci, (fvs bs (mm.1 i) fl).set k (.int x)))) H' := va_P.set hP.1 wsW_D (wsW_at hL) ⟨_, h1, t_OB.to (V := updV (vp_V (fvs bs (mm.1 i) fl)) k (.int x)) ⟨_, e1, q2, q3, t_set q4 hap h3 (.int x)⟩ (fun j _ => vp_updV_set hlen (.int x) j)⟩ e3
  refine kk H' _ ⟨?_, by rw [e2, hP.2]⟩ (hS.put e2 e3 (wsW_D.2 i _ (wsW_at (dA := dA) (m := mm) hL)))
  have he : (wsW dA bs ly mm).set i (bs + i, .inr (ci, (fvs bs (mm.1 i) fl).set k (.int x))) = wsW dA bs ly (wI mm i k x) := by
    refine wsW_set hL ?_ wA_o
    show (Sum.inr (ci, fvs bs ((wI mm i k x).1 i) fl) : va_E) = _
    rw [fvs_set hk, show (wI mm i k x).1 i = upd (mm.1 i) k x from va_up_self _ _ _]
  unfold Wd
  rw [← he]
  exact hP1
theorem wk_astq {t : Nat} {C : String} (X : CxK p m meth c cc nL s args own D dA zz bs) (hP : Wk D dA bs ly mm H) (hS : va_S (Aq bs) s.heap H locs) {i n ci q : Nat} {g : Nat → Option Nat} {fl : List (Option (Option Nat))} (hL : ly[i]? = some (.inr (t, n, g))) (ht : (tysW dA)[t]? = some (dA t, .object C)) (ht3 : ¬ t < 3 ∧ ¬ t = 3) (hq : ly[q]? = some (.inl (ci, fl))) (hc : ∃ (T : u_T) (N : Nat), vwCl[ci]? = some (C, T, N)) {x : Int32} {k : Nat} (hin : vp_in x n) (hk : x.toNatClampNeg = k) (hdg : decode cc pc = .ok (.aastore, 1))
    (kk : ∀ (H1 : Heap) (locs1 : List Loc), Wk D dA bs (ly.set i (.inr (t, n, va_up g k (some q)))) mm H1 → va_S (Aq bs) s.heap H1 locs1 → W p l e R s m args below meth c H1 locs1 cells slots Q (F0 m (pc + 1) ls rest)) : W p l e R s m args below meth c H locs cells slots Q (F0 m pc ls (.ref (bs + q) :: .int x :: .ref (bs + i) :: rest)) := by
  obtain ⟨⟨hx, hb, -, hown, hts, hK, -⟩, -, -⟩ := X
  obtain ⟨T, N, hc⟩ := hc
  subst hk
  have hlt : x.toNatClampNeg < n := Nat.not_le.mp fun z => hin (Or.inr z)
  have h0 : ¬ x < 0 := fun z => hin (Or.inl z)
  have hi : i < ly.length := (List.getElem?_eq_some_iff.mp hL).1
  have he : ∀ g' : Nat → Option Nat, ent dA bs mm i (.inr (t, n, g')) = .inl (dA t, n, .inr (.inr (.inr (.inr (fun j => (g' j).map (fun q => bs + q)))))) := by
    intro g'
    show (Sum.inl (dA t, n, arV bs mm i t g') : va_E) = _
    unfold arV
    rw [if_neg ht3.1, if_neg ht3.2]
  have ha := wsW_at (dA := dA) (bs := bs) (m := mm) hL
  rw [he] at ha
  obtain ⟨r', hr', cellV, g1, g2, g3, -⟩ := hP.1 q _ (wsW_at hq)
  have hcls := (hK.1 ci _ hc).2
  obtain ⟨kA, comp, k1, k2, k3, -⟩ := (hK.2 t _ ht).2
  have hcomp : comp = D.1 ci := Option.some.inj (k3.symm.trans hcls.1)
  subst hcomp
  obtain ⟨kC, hkC, -⟩ := hcls.2
  refine W.aast hx hb (hP.1 i _ ha) (fun z h => by cases h) (fun h => by cases h) k1 k2 rfl hkC ⟨h0, by show _ < (arrV _ _ _).slots.size; rw [arrV_size]; exact hlt⟩ g1 (fun z h => by rw [g3] at h; cases h) (by rw [g2]; exact hkC) (by rw [g2]; exact va_assign hcls) rfl rfl hdg fun H1 e z oq => ?_
  have hP1 : va_P D vwCl ((wsW dA bs ly mm).set i (bs + i, .inl (dA t, n, .inr (.inr (.inr (.inr (fun j => ((va_up g x.toNatClampNeg (some q)) j).map (fun q => bs + q)))))))) H1 := by
    refine va_P.set hP.1 wsW_D ha ?_ oq
    show H1[bs + i]? = some (vp_cell _ _)
    rw [e]
    rw [vp_cell_q, vp_cell_q, arrV_store]
    congr 2
    funext z
    by_cases hz : z = x.toNatClampNeg
    · subst hz
      simp [updV, va_up, va_rf]
    · simp [updV, va_up, hz]
  refine kk H1 _ ⟨?_, by rw [z, hP.2, List.length_set]⟩ (hS.put z oq (wsW_D.2 i _ ha))
  unfold Wd
  rw [← wsW_lay hi, he]
  exact hP1
/-- a constructor called -/
theorem PcK_blind {av : List Value} : FrameBlind (PcK D dA zz bs ly av mm) := fun a U g mk q => by
  obtain ⟨q0, q1, q2, q3, q4, q5⟩ := q
  exact ⟨q0, q1, va_K.moved (u := U) (U := U.calling g mk a) (Vm.Alike.refl U.vm) q2, q3.same rfl, fun w h => nw_same (u := U) h rfl (q4 w h), fun C h => va_AO.moved (u := U) (U := U.calling g mk a) (Vm.Alike.refl U.vm) (q5 C h)⟩
theorem PcK_at {av : List Value} (X : CxK p m meth c cc nL s args own D dA zz bs) (hP : Wk D dA bs ly mm H) (hS : va_S (Aq bs) s.heap H locs) : ∀ U : State, U.heap = H → s.WarmedH U.vm → PcK D dA zz bs ly av mm av.toArray U := fun U hU hW =>
  ⟨rfl, by rw [hU]; exact hP, va_K.moved hW.alike X.1.2.2.2.2.2.1, by rw [hU]; exact X.1.2.2.2.2.2.2.1.moved hW hS, fun w h => nw_warm h hW (X.1.2.2.2.2.2.2.2.2 w h), fun C h => va_AO.moved hW.alike (X.2.1 C h)⟩
theorem wk_back {a : Array Value} (hr : va_Run p l e R s m args below meth c H locs cells slots mc ms (F0 m pc ls st0) rest (QcK D dA bs ly1 m1 a) (Aq bs)) (hS : va_S (Aq bs) s.heap H locs)
    (kk : ∀ (H1 : Heap) (locs1 : List Loc), Wk D dA bs ly1 m1 H1 → va_S (Aq bs) s.heap H1 locs1 → W p l e R s m args below meth c H1 locs1 (cells + mc) (slots + ms) Q (F0 m (pc + 3) ls rest)) : W p l e R s m args below meth c H locs cells slots Q (F0 m pc ls st0) := by
  intro T hT X
  obtain ⟨v, st₀, t, T', L, h0, X', hL, e1, e2, ⟨⟨hv, hb⟩, hz, hk⟩, st⟩ := hr T hT X
  cases hv
  rw [h0] at hz hk
  obtain ⟨t2, a1, b1⟩ := kk T'.heap (locs ++ L) (by rw [e1]; exact hb)
    ⟨Nat.le_trans hS.1 (by rw [e1]; exact hz), fun q h1 h2 => by rw [e1, hk q (Nat.lt_of_lt_of_le h1 hS.1) h2]; exact hS.2.1 q h1 h2, fun q hq => by
      rcases List.mem_append.mp hq with h | h
      · exact hS.2.2 q h
      · exact hL q h⟩ T' rfl X'
  exact ⟨t2, st t2 a1, b1⟩
def MLi (own : String) (idx : Nat) (y : MethodName) (yc : ByteArray) (yl n : Nat) : Prop := MLb y yc yl none n ∧ Cond.methodLink own idx y ∈ gt ∧ Cond.instanceMethod y ∈ gt ∧ y.name = "<init>"
def MLin (own : String) (idx : Nat) (y : MethodName) (yc : ByteArray) (yl n : Nat) : Prop := MLb y yc yl none n ∧ (∃ host, Cond.methodLinkNest own idx y host ∈ nw) ∧ Cond.instanceMethod y ∈ gt ∧ y.name = "<init>"
theorem wk_ci {i : Nat} (X : CxK p m meth c cc nL s args own D dA zz bs) (hP : Wk D dA bs ly mm H) (hS : va_S (Aq bs) s.heap H locs) (hV : MLi own idx y yc yl n) (hM : Mk l D dA zz bs y yc yl fr lo mc ms (.ref (bs + i) :: As) ly mm ly1 m1) (hn : As.length = n) (hR : fr + 1 ≤ R.frames ∧ 8 + (yl + 11) + lo ≤ R.locals) (hls : ls.size = nL) (hst : st0 = As.reverse ++ .ref (bs + i) :: rest) (hW : (rest.map fun v => v.category).sum ≤ 8) (hcs : cells + mc ≤ R.cells ∧ slots + ms ≤ R.slots) (hdg : decode cc pc = .ok (.invokespecial idx, 3))
    (kk : ∀ (H1 : Heap) (locs1 : List Loc), Wk D dA bs ly1 m1 H1 → va_S (Aq bs) s.heap H1 locs1 → W p l e R s m args below meth c H1 locs1 (cells + mc) (slots + ms) Q (F0 m (pc + 3) ls rest)) : W p l e R s m args below meth c H locs cells slots Q (F0 m pc ls st0) := by
  obtain ⟨hx, hb, hml, hown, hts, hK, hZ, hlk⟩ := id X.1
  refine wk_back (va_runI (Ts := gt) ⟨hx, hb, hml, hown, hts⟩ hM ⟨callB_of n hts (good_ws hV.1.1.2) rfl rfl rfl (hts _ hV.1.1.1) (hts _ hV.2.1) hV.1.2 hR, hV.2.2.2, hts _ hV.2.2.1⟩ ⟨PcK_blind, PcK_at X hP hS⟩ rfl hn hls hst (lv_room hW) hdg hcs) hS kk
theorem wk_cin {i : Nat} (X : CxK p m meth c cc nL s args own D dA zz bs) (hP : Wk D dA bs ly mm H) (hS : va_S (Aq bs) s.heap H locs) (hV : MLin own idx y yc yl n) (hM : Mk l D dA zz bs y yc yl fr lo mc ms (.ref (bs + i) :: As) ly mm ly1 m1) (hn : As.length = n) (hR : fr + 1 ≤ R.frames ∧ 8 + (yl + 11) + lo ≤ R.locals) (hls : ls.size = nL) (hst : st0 = As.reverse ++ .ref (bs + i) :: rest) (hW : (rest.map fun v => v.category).sum ≤ 8) (hcs : cells + mc ≤ R.cells ∧ slots + ms ≤ R.slots) (hdg : decode cc pc = .ok (.invokespecial idx, 3))
    (kk : ∀ (H1 : Heap) (locs1 : List Loc), Wk D dA bs ly1 m1 H1 → va_S (Aq bs) s.heap H1 locs1 → W p l e R s m args below meth c H1 locs1 (cells + mc) (slots + ms) Q (F0 m (pc + 3) ls rest)) : W p l e R s m args below meth c H locs cells slots Q (F0 m pc ls st0) := by
  obtain ⟨hx, hb, hml, hown, hts, hK, hZ, hlk⟩ := id X.1
  obtain ⟨hB, ⟨host, hl⟩, hi, hnm⟩ := hV
  refine wk_back (va_runIN (Ts := gt) ⟨hx, hb, hml, hown, hts⟩ hM ⟨va_cnB n hts (good_ws hB.1.2) rfl rfl rfl (X.1.2.2.2.2.2.2.2.2 _ hl) (hts _ hB.1.1) hB.2 hR, hnm, hts _ hi⟩ ⟨PcK_blind, PcK_at X hP hS⟩ rfl hn hls hst (lv_room hW) hdg hcs) hS kk
theorem wk_vret (X : CxK p m meth c cc nL s args own D dA zz bs) (hP : Wk D dA bs ly mm H) (hS : va_S (Aq bs) s.heap H locs) (hr : meth.sig.returnType = none) (hdg : decode cc pc = .ok (.return_, 1)) (ho : ly = ly1 ∧ mm = m1) : W p l e R s m args below meth c H locs cells slots (MQ below (QcK D dA bs ly1 m1) args s cells slots (Aq bs)) (F0 m pc ls []) := by
  obtain ⟨h1, h2⟩ := ho
  subst h1; subst h2
  exact W.vret X.1.1 X.1.2.1 hr (fun t ht hW => ⟨⟨rfl, by rw [ht]; exact hP⟩, hS.F ht⟩) hS.2.2 hdg X.1.2.2.2.2.2.2.2.1
theorem Mk.of {av : List Value} (hy : plainName y.cls = true) (hcl : y.cls = own) (hnm : y.name = "<init>") (hlen : (lg_sl av).length ≤ yl)
    (body : ∀ p e s m args below meth c, CxK p m meth c yc yl s args own D dA zz bs → meth.name = "<init>" → meth.sig.returnType = none → Wk D dA bs ly mm s.heap → va_S (Aq bs) s.heap s.heap [] → ∀ ls, lv_has ls yl (lv_args 0 av) →
      W p l e (rmK fr lo mc ms) s m args below meth c s.heap [] 0 0 (MQ below (QcK D dA bs ly1 m1) args s mc ms (Aq bs)) (F0 m 0 ls [])) : Mk l D dA zz bs y yc yl fr lo mc ms av ly mm ly1 m1 := by
  refine Met.ofW (cc := yc) (maxL := yl) (ret := none) hy rfl ?_
  intro p e s m args below meth c s₁ B hml hv
  obtain ⟨rfl, hP, hK, hZ, hN, hao⟩ := hv
  have hts := atoms_spec (ws := Cond.code y yc yl none :: gt) B.pre
  have hown : s.vm.findClass own = some m.cls := by rw [← hcl]; exact findClass_of_methodNamed B.named
  have hl := lv_entry av hlen
  rw [lg_entry_eq]
  exact body p e s m _ below meth c ⟨⟨B.exec, B.bytes, hml, hown, fun w h => hts w (List.mem_cons_of_mem _ h), hK, hZ, B.notSynchronized, hN⟩, hao, by rw [hP.2]; omega⟩ ((name_of_methodNamed B.named B.method).1.trans hnm) B.returns hP va_S.rf _ hl
end make
/-! places in a list behind another -/
theorem ap_at {α : Type} {a b : List α} {r k : Nat} {y : α} (h : a.length = r) (hb : b[k]? = some y) : (a ++ b)[r + k]? = some y := by
  rw [List.getElem?_append_right (by omega), show r + k - a.length = k by omega]
  exact hb
theorem ap_set {α : Type} {a b : List α} {r k : Nat} {y : α} (h : a.length = r) : (a ++ b).set (r + k) y = a ++ b.set k y := by
  rw [List.set_append_right _ _ (by omega), show r + k - a.length = k by omega]
theorem ap_len {α : Type} {a b : List α} {r k : Nat} (h : a.length = r) (hb : b.length = k) : (a ++ b).length = r + k := by rw [List.length_append, h, hb]
