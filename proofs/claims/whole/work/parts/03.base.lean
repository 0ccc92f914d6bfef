/-! THE WORLD AS NUMBERS: a fixed list of cells (what each is: 'Lay'), whose numbers stand in a memory (Mm): the ints by cell and place, the longs by cell and place. -/
abbrev Mm : Type := (Nat → Nat → Int32) × (Nat → Nat → Int64)
def wA (m : Mm) (i : Nat) (f : Nat → Int32) : Mm := (va_up m.1 i f, m.2)
def wI (m : Mm) (i k : Nat) (x : Int32) : Mm := wA m i (upd (m.1 i) k x)
def wL (m : Mm) (i k : Nat) (x : Int64) : Mm := (m.1, va_up m.2 i (vp_updL (m.2 i) k x))
abbrev Lay : Type := (Nat × List (Option (Option Nat))) ⊕ (Nat × Nat × (Nat → Option Nat))
def fvy (bs : Nat) (x : Int32) (y : Option (Option Nat)) : Value := match y with
  | none => .int x
  | some none => .null
  | some (some q) => .ref (bs + q)
def fv (bs : Nat) (g : Nat → Int32) (l : List (Option (Option Nat))) (k : Nat) : Value := fvy bs (g k) (l.getD k none)
def fvs (bs : Nat) (g : Nat → Int32) (l : List (Option (Option Nat))) : List Value := (List.range l.length).map (fv bs g l)
def arV (bs : Nat) (m : Mm) (i t : Nat) (g : Nat → Option Nat) : (Nat → Int32) ⊕ (Nat → Int64) ⊕ (Nat → UInt32) ⊕ (Nat → UInt64) ⊕ (Nat → Option Nat) :=
  if t < 3 then .inl (m.1 i) else if t = 3 then .inr (.inl (m.2 i)) else .inr (.inr (.inr (.inr (fun j => (g j).map (fun q => bs + q)))))
def ent (dA : Nat → ClassId) (bs : Nat) (m : Mm) (i : Nat) (y : Lay) : va_E := match y with
  | .inl q => .inr (q.1, fvs bs (m.1 i) q.2)
  | .inr q => .inl (dA q.1, q.2.1, arV bs m i q.1 q.2.2)
def wsW (dA : Nat → ClassId) (bs : Nat) (ly : List Lay) (m : Mm) : va_W := (List.range ly.length).map fun i => (bs + i, ent dA bs m i (ly.getD i (.inl (0, []))))
abbrev Aq (bs : Nat) : Nat → Prop := fun q => bs ≤ q
theorem fvs_at {bs : Nat} {g : Nat → Int32} {l : List (Option (Option Nat))} {k : Nat} {y : Option (Option Nat)} (h : l[k]? = some y) : (fvs bs g l)[k]? = some (fvy bs (g k) y) := by
  have hk : k < l.length := (List.getElem?_eq_some_iff.mp h).1
  have hg : l.getD k none = y := by rw [List.getD_eq_getElem?_getD, h]; rfl
  unfold fvs
  rw [List.getElem?_map, List.getElem?_range hk]
  show some (fv bs g l k) = _
  unfold fv
  rw [hg]
theorem wsW_at {dA : Nat → ClassId} {bs : Nat} {ly : List Lay} {m : Mm} {i : Nat} {y : Lay} (h : ly[i]? = some y) : (wsW dA bs ly m)[i]? = some (bs + i, ent dA bs m i y) := by
  have hk : i < ly.length := (List.getElem?_eq_some_iff.mp h).1
  have hg : ly.getD i (.inl (0, [])) = y := by rw [List.getD_eq_getElem?_getD, h]; rfl
  unfold wsW
  rw [List.getElem?_map, List.getElem?_range hk]
  show some (bs + i, ent dA bs m i (ly.getD i (.inl (0, [])))) = _
  rw [hg]
theorem wsW_len {dA : Nat → ClassId} {bs : Nat} {ly : List Lay} {m : Mm} : (wsW dA bs ly m).length = ly.length := by simp [wsW]
theorem wsW_fst {dA : Nat → ClassId} {bs : Nat} {ly : List Lay} {m : Mm} {i : Nat} {q : Nat × va_E} (h : (wsW dA bs ly m)[i]? = some q) : q.1 = bs + i := by
  have hk : i < ly.length := by have := (List.getElem?_eq_some_iff.mp h).1; rwa [wsW_len] at this
  unfold wsW at h
  rw [List.getElem?_map, List.getElem?_range hk] at h
  cases h
  rfl
theorem wsW_D {dA : Nat → ClassId} {bs : Nat} {ly : List Lay} {m : Mm} : va_D (Aq bs) (wsW dA bs ly m) := by
  refine ⟨fun i j p q h1 h2 h3 => ?_, fun k q h => ?_⟩
  · rw [wsW_fst h1, wsW_fst h2] at h3
    omega
  · show bs ≤ q.1
    rw [wsW_fst h]
    omega
/-- two worlds with the same layout: the second is the first with one cell changed -/
theorem wsW_set {dA : Nat → ClassId} {bs : Nat} {ly : List Lay} {m m' : Mm} {i : Nat} {y : Lay} {e : va_E} (h : ly[i]? = some y) (he : ent dA bs m' i y = e) (ho : ∀ j, j ≠ i → m'.1 j = m.1 j ∧ m'.2 j = m.2 j) : (wsW dA bs ly m).set i (bs + i, e) = wsW dA bs ly m' := by
  have hk : i < ly.length := (List.getElem?_eq_some_iff.mp h).1
  apply List.ext_getElem?
  intro j
  rw [List.getElem?_set]
  by_cases hj : i = j
  · subst hj
    rw [if_pos rfl, wsW_len, if_pos hk, wsW_at h, he]
  · rw [if_neg hj]
    by_cases hl : j < ly.length
    · have hy : ly[j]? = some ly[j] := List.getElem?_eq_getElem hl
      rw [wsW_at hy, wsW_at hy]
      have hh := ho j (fun e => hj e.symm)
      unfold ent
      cases ly[j] with
      | inl q => simp only [hh.1]
      | inr q => simp only [arV, hh.1, hh.2]
    · rw [List.getElem?_eq_none (by rw [wsW_len]; omega), List.getElem?_eq_none (by rw [wsW_len]; omega)]
theorem wA_o {m : Mm} {i : Nat} {f : Nat → Int32} : ∀ j, j ≠ i → (wA m i f).1 j = m.1 j ∧ (wA m i f).2 j = m.2 j := fun j hj => ⟨va_up_ne m.1 f hj, rfl⟩
theorem wL_o {m : Mm} {i k : Nat} {x : Int64} : ∀ j, j ≠ i → (wL m i k x).1 j = m.1 j ∧ (wL m i k x).2 j = m.2 j := fun j hj => ⟨rfl, va_up_ne m.2 _ hj⟩
theorem fvs_set {bs : Nat} {g : Nat → Int32} {l : List (Option (Option Nat))} {k : Nat} {x : Int32} (h : l[k]? = some none) : (fvs bs g l).set k (.int x) = fvs bs (upd g k x) l := by
  have hk : k < l.length := (List.getElem?_eq_some_iff.mp h).1
  have hg : l.getD k none = none := by rw [List.getD_eq_getElem?_getD, h]; rfl
  apply List.ext_getElem?
  intro j
  rw [List.getElem?_set]
  by_cases hj : k = j
  · subst hj
    rw [if_pos rfl, fvs_at h, if_pos (by simp [fvs, hk])]
    simp [upd, fvy]
  · rw [if_neg hj]
    by_cases hl : j < l.length
    · have hy : l[j]? = some l[j] := List.getElem?_eq_getElem hl
      rw [fvs_at hy, fvs_at hy]
      have hu : upd g k x j = g j := if_neg (fun e => hj e.symm)
      rw [hu]
    · rw [List.getElem?_eq_none (by simp [fvs]; omega), List.getElem?_eq_none (by simp [fvs]; omega)]
def Wd (D : va_G) (dA : Nat → ClassId) (bs : Nat) (ly : List Lay) (m : Mm) (H : Heap) : Prop := va_P D vwCl (wsW dA bs ly m) H
abbrev tysW (dA : Nat → ClassId) : List (ClassId × FieldType) := [(dA 0, .int), (dA 1, .byte), (dA 2, .boolean), (dA 3, .long), (dA 4, .object "PartyRaft$State"), (dA 5, .object "PartyRaft$Rule"), (dA 6, .object "PartyRaft$Raft")]
/-- the text constants: lengths, bytes, where each stands in the pools -/
def sN : Nat := 24
def sL : List Nat := [29, 3, 68, 2, 3, 3, 2, 5, 5, 5, 5, 5, 3, 5, 5, 6, 4, 4, 5, 5, 5, 4, 7, 4]
def sB : List (List Int32) := [[114, 105, 118, 101, 114, 32, 111, 119, 110, 101, 114, 32, 116, 104, 105, 110, 103, 32, 98, 111, 117, 110, 100, 32, 114, 97, 112, 105, 100], [116, 105, 101], [111, 110, 101, 32, 111, 116, 104, 101, 114, 32, 102, 108, 111, 97, 116, 32, 119, 101, 105, 103, 104, 116, 32, 115, 111, 97, 107, 32, 115, 97, 109, 101, 32, 97, 112, 97, 114, 116, 32, 114, 111, 112, 101, 115, 32, 115, 116, 111, 114, 101, 32, 109, 105, 108, 101, 32, 108, 97, 110, 100, 105, 110, 103, 32, 108, 101, 102, 116], [105, 102], [110, 111, 116], [97, 110, 100], [111, 114], [114, 105, 118, 101, 114], [111, 119, 110, 101, 114], [116, 104, 105, 110, 103], [98, 111, 117, 110, 100], [114, 97, 112, 105, 100], [111, 110, 101], [111, 116, 104, 101, 114], [102, 108, 111, 97, 116], [119, 101, 105, 103, 104, 116], [115, 111, 97, 107], [115, 97, 109, 101], [97, 112, 97, 114, 116], [114, 111, 112, 101, 115], [115, 116, 111, 114, 101], [109, 105, 108, 101], [108, 97, 110, 100, 105, 110, 103], [108, 101, 102, 116]]
def sT : List (String × Nat × String × Nat) := [("PartyRaft$RiverReader", 59, "river owner thing bound rapid", 0), ("PartyRaft$RuleReader", 34, "tie", 1), ("PartyRaft$RuleReader", 119, "one other float weight soak same apart ropes store mile landing left", 2), ("PartyRaft$RuleReader", 64, "if", 3), ("PartyRaft$RuleReader", 94, "not", 4), ("PartyRaft$RuleReader", 86, "and", 5), ("PartyRaft$RuleReader", 88, "or", 6), ("PartyRaftModel", 310, "river", 7), ("PartyRaftModel", 312, "owner", 8), ("PartyRaftModel", 314, "thing", 9), ("PartyRaftModel", 316, "bound", 10), ("PartyRaftModel", 318, "rapid", 11), ("PartyRaftModel", 362, "tie", 1), ("PartyRaftModel", 191, "one", 12), ("PartyRaftModel", 193, "other", 13), ("PartyRaftModel", 195, "float", 14), ("PartyRaftModel", 197, "weight", 15), ("PartyRaftModel", 198, "soak", 16), ("PartyRaftModel", 199, "same", 17), ("PartyRaftModel", 201, "apart", 18), ("PartyRaftModel", 203, "ropes", 19), ("PartyRaftModel", 205, "store", 20), ("PartyRaftModel", 207, "mile", 21), ("PartyRaftModel", 209, "landing", 22), ("PartyRaftModel", 210, "left", 23), ("PartyRaftModel", 364, "if", 3), ("PartyRaftModel", 292, "not", 4), ("PartyRaftModel", 306, "and", 5), ("PartyRaftModel", 308, "or", 6)]
def Zw (zz : (Nat → Nat) × (Nat → Nat)) (bs : Nat) (U : State) (H : Heap) : Prop := vk_S sN sL sB zz.1 zz.2 (Aq bs) U H ∧ (∀ q ∈ sT, vk_R q.1 q.2.1 q.2.2.1 (zz.1 q.2.2.2) U) ∧ va_Z "java/lang/String" "COMPACT_STRINGS" "Z" (.int 1) (Aq bs) U H ∧ va_Zq "jdk/internal/util/Preconditions" "SIOOBE_FORMATTER" "Ljava/util/function/BiFunction;" (Aq bs) U H
theorem Zw.moved {zz : (Nat → Nat) × (Nat → Nat)} {bs : Nat} {s U : State} {H H1 : Heap} {locs : List Loc} (hW : s.WarmedH U.vm) (h : Zw zz bs s H) (hS : va_S (Aq bs) H H1 locs) : Zw zz bs U H1 :=
  ⟨(h.1.moved hW.alike).kept (fun a h1 h2 => hS.2.1 a h1 h2), fun q hq => (h.2.1 q hq).warm hW, (h.2.2.1.moved hW.alike).kept (fun a h1 h2 => hS.2.1 a h1 h2), (h.2.2.2.moved hW.alike).kept (fun a h1 h2 => hS.2.1 a h1 h2)⟩
theorem Zw.same {zz : (Nat → Nat) × (Nat → Nat)} {bs : Nat} {u U : State} {H : Heap} (hv : U.vm = u.vm) (h : Zw zz bs u H) : Zw zz bs U H :=
  ⟨h.1.moved (by rw [hv]; exact Vm.Alike.refl _), fun q hq => (h.2.1 q hq).same hv, h.2.2.1.moved (by rw [hv]; exact Vm.Alike.refl _), h.2.2.2.moved (by rw [hv]; exact Vm.Alike.refl _)⟩
/-- all that a method's walk stands on: the machine, its code, its class, the tables' words, the classes -/
def Cx (p : Program) (m : MethodId) (meth : Method) (c : Code) (cc : ByteArray) (nL : Nat) (s : State) (args : Array Value) (own : String) (D : va_G) (dA : Nat → ClassId) (zz : (Nat → Nat) × (Nat → Nat)) (bs : Nat) : Prop :=
  p.tables.exec = Jvm.exec ∧ c.code = cc ∧ c.maxLocals = nL ∧ s.vm.findClass own = some m.cls ∧ (∀ w ∈ gt, w.before args s = true) ∧ va_K D vwCl (tysW dA) s ∧ Zw zz bs s s.heap ∧ meth.locks = false ∧ ∀ w ∈ nw, va_Nw w s
/-- a field that an instruction names: the class's place in vwCl, the field's in the class -/
def FLk (own : String) (idx ci k : Nat) : Prop := ∃ (C : String) (T : u_T) (N : Nat), vwCl[ci]? = some (C, T, N) ∧ (∀ w ∈ u_ws C T N, w ∈ gt) ∧ k < N ∧ Cond.fieldLink own idx (T k).1 (T k).2.1 (T k).2.2.1 ∈ gt
/-- one that may be written: not final, of this type -/
def FLp (own : String) (idx ci k : Nat) (ty : FieldType) : Prop := ∃ (C : String) (T : u_T) (N : Nat) (ty0 : Nat → FieldType), vwCl[ci]? = some (C, T, N) ∧ (∀ w ∈ u_ws C T N, w ∈ gt) ∧ k < N ∧ Cond.fieldLink own idx (T k).1 (T k).2.1 (T k).2.2.1 ∈ gt ∧ (∀ k, k < N → parseFieldDescriptor (T k).2.2.1 = some (ty0 k)) ∧ (∀ a, a < N → ∀ b, b < N → a ≠ b → (T a).2.1 ≠ (T b).2.1) ∧ (T k).2.2.2 = false ∧ ty0 k = ty
section rows
variable {p : Program} {l : Launch} {e : Env} {R : Room} {s : State} {m : MethodId} {args : Array Value} {below : List Frame} {meth : Method} {c : Code} {H : Heap} {locs : List Loc} {cells slots : Nat} {Q : State → Prop} {cc : ByteArray} {nL : Nat} {own : String} {D : va_G} {dA : Nat → ClassId} {zz : (Nat → Nat) × (Nat → Nat)} {bs : Nat} {ly : List Lay} {mm : Mm} {pc : Nat} {ls : Array Slot} {rest : List Value}
theorem wd_getI (X : Cx p m meth c cc nL s args own D dA zz bs) (hP : Wd D dA bs ly mm H) {i idx ci k : Nat} {fl : List (Option (Option Nat))} (hL : ly[i]? = some (.inl (ci, fl))) (hf : FLk own idx ci k) (hk : fl[k]? = some none) (hdg : decode cc pc = .ok (.getfield idx, 3))
    (kk : W p l e R s m args below meth c H locs cells slots Q (F0 m (pc + 3) ls (.int (mm.1 i k) :: rest))) : W p l e R s m args below meth c H locs cells slots Q (F0 m pc ls (.ref (bs + i) :: rest)) := by
  obtain ⟨hx, hb, -, hown, hts, hK, -⟩ := X
  obtain ⟨C, T, N, h1, h2, h3, h4⟩ := hf
  exact va_get hx hb hts h2 hown hK hP i (wsW_at hL) h1 k h3 (hts _ h4) (fun _ h => h) (fvs_at hk) hdg kk
theorem wd_getR (X : Cx p m meth c cc nL s args own D dA zz bs) (hP : Wd D dA bs ly mm H) {i idx ci k : Nat} {fl : List (Option (Option Nat))} (hL : ly[i]? = some (.inl (ci, fl))) (hf : FLk own idx ci k) {q : Nat} (hk : fl[k]? = some (some (some q))) (hdg : decode cc pc = .ok (.getfield idx, 3))
    (kk : W p l e R s m args below meth c H locs cells slots Q (F0 m (pc + 3) ls (.ref (bs + q) :: rest))) : W p l e R s m args below meth c H locs cells slots Q (F0 m pc ls (.ref (bs + i) :: rest)) := by
  obtain ⟨hx, hb, -, hown, hts, hK, -⟩ := X
  obtain ⟨C, T, N, h1, h2, h3, h4⟩ := hf
  exact va_get hx hb hts h2 hown hK hP i (wsW_at hL) h1 k h3 (hts _ h4) (fun _ h => h) (fvs_at hk) hdg kk
theorem wd_putV (X : Cx p m meth c cc nL s args own D dA zz bs) (hP : Wd D dA bs ly mm H) (hS : va_S (Aq bs) s.heap H locs) {i idx ci k : Nat} {fl : List (Option (Option Nat))} (hL : ly[i]? = some (.inl (ci, fl))) {ty : FieldType} (hf : FLp own idx ci k ty) (hk : fl[k]? = some none) {x : Int32} (hn : narrow ty (.int x) = .int x) (hfit : fits ty (.int x) = true) (hdg : decode cc pc = .ok (.putfield idx, 3))
    (kk : ∀ (H1 : Heap) (locs1 : List Loc) (m1 : Mm), m1 = wI mm i k x → Wd D dA bs ly m1 H1 → va_S (Aq bs) s.heap H1 locs1 → W p l e R s m args below meth c H1 locs1 cells slots Q (F0 m (pc + 3) ls rest)) : W p l e R s m args below meth c H locs cells slots Q (F0 m pc ls (.int x :: .ref (bs + i) :: rest)) := by
  obtain ⟨hx, hb, -, hown, hts, hK, -⟩ := X
  obtain ⟨C, T, N, ty0, h1, h2, h3, h4, h5, h6, h7, h8⟩ := hf
  have hlen : k < (fvs bs (mm.1 i) fl).length := by
    have := (List.getElem?_eq_some_iff.mp hk).1
    simpa [fvs] using this
  refine va_put hx hb hts h2 ty0 h5 h6 hown hK hP wsW_D hS i (wsW_at hL) h1 k h3 (hts _ h4) (fun _ h => h) h7 (h5 k h3) (by rw [h8]; exact hn) (by rw [h8]; exact hfit) hlen hdg (fun H1 locs1 hP1 _ hS1 => ?_)
  refine kk H1 locs1 _ rfl ?_ hS1
  have he : (wsW dA bs ly mm).set i (bs + i, .inr (ci, (fvs bs (mm.1 i) fl).set k (.int x))) = wsW dA bs ly (wI mm i k x) := by
    refine wsW_set hL ?_ wA_o
    show (Sum.inr (ci, fvs bs ((wI mm i k x).1 i) fl) : va_E) = _
    rw [fvs_set hk, show (wI mm i k x).1 i = upd (mm.1 i) k x from va_up_self _ _ _]
  unfold Wd
  rw [← he]
  exact hP1
theorem wd_putI (X : Cx p m meth c cc nL s args own D dA zz bs) (hP : Wd D dA bs ly mm H) (hS : va_S (Aq bs) s.heap H locs) {i idx ci k : Nat} {fl : List (Option (Option Nat))} (hL : ly[i]? = some (.inl (ci, fl))) (hf : FLp own idx ci k .int) (hk : fl[k]? = some none) {x : Int32} (hdg : decode cc pc = .ok (.putfield idx, 3))
    (kk : ∀ (H1 : Heap) (locs1 : List Loc) (m1 : Mm), m1 = wI mm i k x → Wd D dA bs ly m1 H1 → va_S (Aq bs) s.heap H1 locs1 → W p l e R s m args below meth c H1 locs1 cells slots Q (F0 m (pc + 3) ls rest)) : W p l e R s m args below meth c H locs cells slots Q (F0 m pc ls (.int x :: .ref (bs + i) :: rest)) :=
  wd_putV X hP hS hL hf hk rfl rfl hdg kk
theorem wd_putZ (X : Cx p m meth c cc nL s args own D dA zz bs) (hP : Wd D dA bs ly mm H) (hS : va_S (Aq bs) s.heap H locs) {i idx ci k : Nat} {fl : List (Option (Option Nat))} (hL : ly[i]? = some (.inl (ci, fl))) (hf : FLp own idx ci k .boolean) (hk : fl[k]? = some none) {x : Int32} (hz : ¬ (¬ x = 0 ∧ ¬ x = 1)) (hdg : decode cc pc = .ok (.putfield idx, 3))
    (kk : ∀ (H1 : Heap) (locs1 : List Loc) (m1 : Mm), m1 = wI mm i k x → Wd D dA bs ly m1 H1 → va_S (Aq bs) s.heap H1 locs1 → W p l e R s m args below meth c H1 locs1 cells slots Q (F0 m (pc + 3) ls rest)) : W p l e R s m args below meth c H locs cells slots Q (F0 m pc ls (.int x :: .ref (bs + i) :: rest)) := by
  have h : x = 0 ∨ x = 1 := by
    by_cases h0 : x = 0
    · exact Or.inl h0
    · by_cases h1 : x = 1
      · exact Or.inr h1
      · exact absurd ⟨h0, h1⟩ hz
  rcases h with h | h <;> subst h <;> exact wd_putV X hP hS hL hf hk (by decide) (by decide) hdg kk
theorem wd_iald (X : Cx p m meth c cc nL s args own D dA zz bs) (hP : Wd D dA bs ly mm H) {i n : Nat} {g : Nat → Option Nat} (hL : ly[i]? = some (.inr (0, n, g))) {x : Int32} (hin : ¬ (x < 0 ∨ n ≤ x.toNatClampNeg)) (hdg : decode cc pc = .ok (.iaload, 1))
    (kk : W p l e R s m args below meth c H locs cells slots Q (F0 m (pc + 1) ls (.int (mm.1 i x.toNatClampNeg) :: rest))) : W p l e R s m args below meth c H locs cells slots Q (F0 m pc ls (.int x :: .ref (bs + i) :: rest)) := by
  obtain ⟨hx, hb, -, hown, hts, hK, -⟩ := X
  exact va_iald hx hb hK hP i 0 (wsW_at hL) rfl hin hdg kk
theorem wd_bald (X : Cx p m meth c cc nL s args own D dA zz bs) (hP : Wd D dA bs ly mm H) {i n : Nat} {g : Nat → Option Nat} (hL : ly[i]? = some (.inr (1, n, g))) {x : Int32} (hin : ¬ (x < 0 ∨ n ≤ x.toNatClampNeg)) (hdg : decode cc pc = .ok (.baload, 1))
    (kk : W p l e R s m args below meth c H locs cells slots Q (F0 m (pc + 1) ls (.int (mm.1 i x.toNatClampNeg) :: rest))) : W p l e R s m args below meth c H locs cells slots Q (F0 m pc ls (.int x :: .ref (bs + i) :: rest)) := by
  obtain ⟨hx, hb, -, hown, hts, hK, -⟩ := X
  exact va_bald hx hb hK hP i 1 (wsW_at hL) rfl hin hdg kk
theorem wd_zald (X : Cx p m meth c cc nL s args own D dA zz bs) (hP : Wd D dA bs ly mm H) {i n : Nat} {g : Nat → Option Nat} (hL : ly[i]? = some (.inr (2, n, g))) {x : Int32} (hin : ¬ (x < 0 ∨ n ≤ x.toNatClampNeg)) (hdg : decode cc pc = .ok (.baload, 1))
    (kk : W p l e R s m args below meth c H locs cells slots Q (F0 m (pc + 1) ls (.int (mm.1 i x.toNatClampNeg) :: rest))) : W p l e R s m args below meth c H locs cells slots Q (F0 m pc ls (.int x :: .ref (bs + i) :: rest)) := by
  obtain ⟨hx, hb, -, hown, hts, hK, -⟩ := X
  exact va_zald hx hb hK hP i 2 (wsW_at hL) rfl hin hdg kk
theorem wd_lald (X : Cx p m meth c cc nL s args own D dA zz bs) (hP : Wd D dA bs ly mm H) {i n : Nat} {g : Nat → Option Nat} (hL : ly[i]? = some (.inr (3, n, g))) {x : Int32} (hin : ¬ (x < 0 ∨ n ≤ x.toNatClampNeg)) (hdg : decode cc pc = .ok (.laload, 1))
    (kk : W p l e R s m args below meth c H locs cells slots Q (F0 m (pc + 1) ls (.long (mm.2 i x.toNatClampNeg) :: rest))) : W p l e R s m args below meth c H locs cells slots Q (F0 m pc ls (.int x :: .ref (bs + i) :: rest)) := by
  obtain ⟨hx, hb, -, hown, hts, hK, -⟩ := X
  exact va_lald hx hb hK hP i 3 (wsW_at hL) rfl hin hdg kk
theorem wd_aald (X : Cx p m meth c cc nL s args own D dA zz bs) (hP : Wd D dA bs ly mm H) {i t n : Nat} {g : Nat → Option Nat} (hL : ly[i]? = some (.inr (t, n, g))) {C : String} (ht : (tysW dA)[t]? = some (dA t, .object C)) (ht3 : ¬ t < 3 ∧ ¬ t = 3) {x : Int32} (hin : ¬ (x < 0 ∨ n ≤ x.toNatClampNeg)) {q : Nat} (hq : g x.toNatClampNeg = some q) (hdg : decode cc pc = .ok (.aaload, 1))
    (kk : W p l e R s m args below meth c H locs cells slots Q (F0 m (pc + 1) ls (.ref (bs + q) :: rest))) : W p l e R s m args below meth c H locs cells slots Q (F0 m pc ls (.int x :: .ref (bs + i) :: rest)) := by
  obtain ⟨hx, hb, -, hown, hts, hK, -⟩ := X
  have ha := wsW_at (dA := dA) (bs := bs) (m := mm) hL
  have he : ent dA bs mm i (.inr (t, n, g)) = .inl (dA t, n, .inr (.inr (.inr (.inr (fun j => (g j).map (fun q => bs + q)))))) := by
    show (Sum.inl (dA t, n, arV bs mm i t g) : va_E) = _
    unfold arV
    rw [if_neg ht3.1, if_neg ht3.2]
  rw [he] at ha
  refine va_aldq hx hb hK hP i t ha ht hin hdg ?_
  show W p l e R s m args below meth c H locs cells slots Q (F0 m (pc + 1) ls (va_rf ((g x.toNatClampNeg).map (fun q => bs + q)) :: rest))
  rw [hq]
  exact kk
theorem wd_alen (X : Cx p m meth c cc nL s args own D dA zz bs) (hP : Wd D dA bs ly mm H) {i t n : Nat} {g : Nat → Option Nat} (hL : ly[i]? = some (.inr (t, n, g))) {ty : FieldType} (ht : (tysW dA)[t]? = some (dA t, ty)) {v : Int32} (hv : Int32.ofNat n = v) (hdg : decode cc pc = .ok (.arraylength, 1))
    (kk : W p l e R s m args below meth c H locs cells slots Q (F0 m (pc + 1) ls (.int v :: rest))) : W p l e R s m args below meth c H locs cells slots Q (F0 m pc ls (.ref (bs + i) :: rest)) := by
  obtain ⟨hx, hb, -, hown, hts, hK, -⟩ := X
  exact va_alen hx hb hK hP i t (wsW_at hL) ht hv hdg kk
theorem wsW_wA {i t n : Nat} {g : Nat → Option Nat} {f : Nat → Int32} (hL : ly[i]? = some (.inr (t, n, g))) (ht : t < 3) : (wsW dA bs ly mm).set i (bs + i, .inl (dA t, n, .inl f)) = wsW dA bs ly (wA mm i f) := by
  refine wsW_set hL ?_ wA_o
  show (Sum.inl (dA t, n, arV bs (wA mm i f) i t g) : va_E) = _
  unfold arV
  rw [if_pos ht, show (wA mm i f).1 i = f from va_up_self _ _ _]
theorem wd_iast (X : Cx p m meth c cc nL s args own D dA zz bs) (hP : Wd D dA bs ly mm H) (hS : va_S (Aq bs) s.heap H locs) {i n : Nat} {g : Nat → Option Nat} (hL : ly[i]? = some (.inr (0, n, g))) {x v : Int32} (hin : ¬ (x < 0 ∨ n ≤ x.toNatClampNeg)) (hdg : decode cc pc = .ok (.iastore, 1))
    (kk : ∀ (H1 : Heap) (locs1 : List Loc) (m1 : Mm), m1 = wI mm i x.toNatClampNeg v → Wd D dA bs ly m1 H1 → va_S (Aq bs) s.heap H1 locs1 → W p l e R s m args below meth c H1 locs1 cells slots Q (F0 m (pc + 1) ls rest)) : W p l e R s m args below meth c H locs cells slots Q (F0 m pc ls (.int v :: .int x :: .ref (bs + i) :: rest)) := by
  obtain ⟨hx, hb, -, hown, hts, hK, -⟩ := X
  refine va_iast hx hb hK hP wsW_D hS i 0 (wsW_at hL) rfl hin hdg (fun H1 locs1 hP1 _ hS1 => ?_)
  refine kk H1 locs1 _ rfl ?_ hS1
  unfold Wd wI
  rw [← wsW_wA hL (by decide)]
  exact hP1
theorem wd_bast (X : Cx p m meth c cc nL s args own D dA zz bs) (hP : Wd D dA bs ly mm H) (hS : va_S (Aq bs) s.heap H locs) {i n : Nat} {g : Nat → Option Nat} (hL : ly[i]? = some (.inr (1, n, g))) {x v : Int32} (hin : ¬ (x < 0 ∨ n ≤ x.toNatClampNeg)) (hdg : decode cc pc = .ok (.bastore, 1))
    (kk : ∀ (H1 : Heap) (locs1 : List Loc) (m1 : Mm), m1 = wI mm i x.toNatClampNeg (vp_nar .byte v) → Wd D dA bs ly m1 H1 → va_S (Aq bs) s.heap H1 locs1 → W p l e R s m args below meth c H1 locs1 cells slots Q (F0 m (pc + 1) ls rest)) : W p l e R s m args below meth c H locs cells slots Q (F0 m pc ls (.int v :: .int x :: .ref (bs + i) :: rest)) := by
  obtain ⟨hx, hb, -, hown, hts, hK, -⟩ := X
  refine va_bast hx hb hK hP wsW_D hS i 1 (wsW_at hL) rfl hin hdg (fun H1 locs1 hP1 _ hS1 => ?_)
  refine kk H1 locs1 _ rfl ?_ hS1
  unfold Wd wI
  rw [← wsW_wA hL (by decide)]
  exact hP1
theorem wd_zast (X : Cx p m meth c cc nL s args own D dA zz bs) (hP : Wd D dA bs ly mm H) (hS : va_S (Aq bs) s.heap H locs) {i n : Nat} {g : Nat → Option Nat} (hL : ly[i]? = some (.inr (2, n, g))) {x v : Int32} (hin : ¬ (x < 0 ∨ n ≤ x.toNatClampNeg)) (hdg : decode cc pc = .ok (.bastore, 1))
    (kk : ∀ (H1 : Heap) (locs1 : List Loc) (m1 : Mm), m1 = wI mm i x.toNatClampNeg (vp_nar .boolean v) → Wd D dA bs ly m1 H1 → va_S (Aq bs) s.heap H1 locs1 → W p l e R s m args below meth c H1 locs1 cells slots Q (F0 m (pc + 1) ls rest)) : W p l e R s m args below meth c H locs cells slots Q (F0 m pc ls (.int v :: .int x :: .ref (bs + i) :: rest)) := by
  obtain ⟨hx, hb, -, hown, hts, hK, -⟩ := X
  refine va_zast hx hb hK hP wsW_D hS i 2 (wsW_at hL) rfl hin hdg (fun H1 locs1 hP1 _ hS1 => ?_)
  refine kk H1 locs1 _ rfl ?_ hS1
  unfold Wd wI
  rw [← wsW_wA hL (by decide)]
  exact hP1
theorem wd_last (X : Cx p m meth c cc nL s args own D dA zz bs) (hP : Wd D dA bs ly mm H) (hS : va_S (Aq bs) s.heap H locs) {i n : Nat} {g : Nat → Option Nat} (hL : ly[i]? = some (.inr (3, n, g))) {x : Int32} {v : Int64} (hin : ¬ (x < 0 ∨ n ≤ x.toNatClampNeg)) (hdg : decode cc pc = .ok (.lastore, 1))
    (kk : ∀ (H1 : Heap) (locs1 : List Loc) (m1 : Mm), m1 = wL mm i x.toNatClampNeg v → Wd D dA bs ly m1 H1 → va_S (Aq bs) s.heap H1 locs1 → W p l e R s m args below meth c H1 locs1 cells slots Q (F0 m (pc + 1) ls rest)) : W p l e R s m args below meth c H locs cells slots Q (F0 m pc ls (.long v :: .int x :: .ref (bs + i) :: rest)) := by
  obtain ⟨hx, hb, -, hown, hts, hK, -⟩ := X
  refine va_last hx hb hK hP wsW_D hS i 3 (wsW_at hL) rfl hin hdg (fun H1 locs1 hP1 _ hS1 => ?_)
  refine kk H1 locs1 _ rfl ?_ hS1
  have he : (wsW dA bs ly mm).set i (bs + i, .inl (dA 3, n, .inr (.inl (vp_updL (mm.2 i) x.toNatClampNeg v)))) = wsW dA bs ly (wL mm i x.toNatClampNeg v) := by
    refine wsW_set hL ?_ wL_o
    show (Sum.inl (dA 3, n, arV bs (wL mm i x.toNatClampNeg v) i 3 g) : va_E) = _
    unfold arV
    rw [if_neg (by decide), if_pos rfl, show (wL mm i x.toNatClampNeg v).2 i = vp_updL (mm.2 i) x.toNatClampNeg v from va_up_self _ _ _]
  unfold Wd
  rw [← he]
  exact hP1
end rows
