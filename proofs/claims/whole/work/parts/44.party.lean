def pP0 (_ : Nat) : List Lay := []
theorem pP0_len (r : Nat) : (pP0 r).length = 0 := rfl
def pP1 (r : Nat) : List Lay := pP0 r ++ lX10 (r + 1)
theorem pP1_len (r : Nat) : (pP1 r).length = 2 := by
  unfold pP1
  rw [List.length_append, pP0_len]
  rfl
def pP2 (r : Nat) : List Lay := pP1 r ++ lX6 (r + 3) (r + 1)
theorem pP2_len (r : Nat) : (pP2 r).length = 18 := by
  unfold pP2
  rw [List.length_append, pP1_len]
  rfl
def pP3 (r : Nat) : List Lay := pP2 r ++ lX8 (r + 19) (r + 1)
theorem pP3_len (r : Nat) : (pP3 r).length = 25 := by
  unfold pP3
  rw [List.length_append, pP2_len]
  rfl
def pP4 (r : Nat) : List Lay := pP3 r ++ lState (r + 26)
theorem pP4_len (r : Nat) : (pP4 r).length = 225 := by
  unfold pP4
  rw [List.length_append, pP3_len]
  rfl
def pP5 (r : Nat) : List Lay := pP4 r ++ [.inr (4, 4, ng)]
theorem pP5_len (r : Nat) : (pP5 r).length = 226 := by
  unfold pP5
  rw [List.length_append, pP4_len]
  rfl
def pP6 (r : Nat) : List Lay := pP5 r ++ [.inr (2, 4, ng)]
theorem pP6_len (r : Nat) : (pP6 r).length = 227 := by
  unfold pP6
  rw [List.length_append, pP5_len]
  rfl
def pP7 (r : Nat) : List Lay := pP6 r ++ [.inr (5, 6, ng)]
theorem pP7_len (r : Nat) : (pP7 r).length = 228 := by
  unfold pP7
  rw [List.length_append, pP6_len]
  rfl
def pP8 (r : Nat) : List Lay := pP7 r ++ lX2 (r + 229)
theorem pP8_len (r : Nat) : (pP8 r).length = 231 := by
  unfold pP8
  rw [List.length_append, pP7_len]
  rfl
def pP9 (r : Nat) : List Lay := pP8 r ++ lX3 (r + 232) (r + 26) (r + 229) (r + 33)
theorem pP9_len (r : Nat) : (pP9 r).length = 233 := by
  unfold pP9
  rw [List.length_append, pP8_len]
  rfl
def pP10 (r : Nat) : List Lay := pP9 r ++ lX1 (r + 234) (r + 33)
theorem pP10_len (r : Nat) : (pP10 r).length = 237 := by
  unfold pP10
  rw [List.length_append, pP9_len]
  rfl
def pP11 (r : Nat) : List Lay := pP10 r ++ lX0 (r + 238) (r + 33)
theorem pP11_len (r : Nat) : (pP11 r).length = 241 := by
  unfold pP11
  rw [List.length_append, pP10_len]
  rfl
def pP12 (r : Nat) : List Lay := pP11 r ++ lRaft (r + 242) (r + 27)
theorem pP12_len (r : Nat) : (pP12 r).length = 250 := by
  unfold pP12
  rw [List.length_append, pP11_len]
  rfl
def pP13 (r : Nat) : List Lay := pP12 r ++ [.inr (0, 3, ng)]
theorem pP13_len (r : Nat) : (pP13 r).length = 251 := by
  unfold pP13
  rw [List.length_append, pP12_len]
  rfl
def pPx (r : Nat) (a b : Nat → Option Nat) : List Lay := ((pP13 r).set 225 (.inr (4, 4, a))).set 227 (.inr (5, 6, b))
theorem pPx_len (r : Nat) (a b : Nat → Option Nat) : (pPx r a b).length = 251 := by
  unfold pPx
  rw [List.length_set, List.length_set, pP13_len]
set_option maxRecDepth 100000 in
theorem pPx_0 (r : Nat) : pPx r ng ng = pP13 r := rfl
theorem pPx_a (r : Nat) (a b : Nat → Option Nat) : (pPx r a b)[225]? = some (.inr (4, 4, a)) := by
  unfold pPx
  rw [List.getElem?_set_ne (by decide), List.getElem?_set_self (by rw [pP13_len]; decide)]
theorem pPx_b (r : Nat) (a b : Nat → Option Nat) : (pPx r a b)[227]? = some (.inr (5, 6, b)) := by
  unfold pPx
  rw [List.getElem?_set_self (by rw [List.length_set, pP13_len]; decide)]
theorem pPx_sa (r : Nat) (a a' b : Nat → Option Nat) : (pPx r a b).set 225 (.inr (4, 4, a')) = pPx r a' b := by
  unfold pPx
  rw [List.set_comm _ _ (by decide), List.set_set]
theorem pPx_sb (r : Nat) (a b b' : Nat → Option Nat) : (pPx r a b).set 227 (.inr (5, 6, b')) = pPx r a b' := by
  unfold pPx
  rw [List.set_set]
def lSS (r : Nat) : Nat → List Lay
  | 0 => []
  | j + 1 => lSS r j ++ lState (r + 252 + 200 * j)
def lUU (r : Nat) : Nat → List Lay
  | 0 => []
  | j + 1 => lUU r j ++ lRule (r + 1052 + 6 * j)
theorem lSS_len (r : Nat) : ∀ j, (lSS r j).length = 200 * j
  | 0 => rfl
  | j + 1 => by
    show (lSS r j ++ lState (r + 252 + 200 * j)).length = _
    rw [List.length_append, lSS_len r j]
    show 200 * j + 200 = _
    omega
theorem lUU_len (r : Nat) : ∀ j, (lUU r j).length = 6 * j
  | 0 => rfl
  | j + 1 => by
    show (lUU r j ++ lRule (r + 1052 + 6 * j)).length = _
    rw [List.length_append, lUU_len r j]
    show 6 * j + 6 = _
    omega
def g4 (r j : Nat) : Nat → Option Nat := fun i => if i < j then some (r + 252 + 200 * i) else none
def g5 (r j : Nat) : Nat → Option Nat := fun i => if i < j then some (r + 1052 + 6 * i) else none
theorem up_if {f : Nat → Nat} (j : Nat) : va_up (fun i => if i < j then some (f i) else none) j (some (f j)) = (fun i => if i < j + 1 then some (f i) else none) := by
  funext i
  unfold va_up
  by_cases h : i = j
  · subst h
    rw [if_pos rfl, if_pos (by omega)]
  · rw [if_neg h]
    by_cases h2 : i < j
    · show (if i < j then some (f i) else none) = _
      rw [if_pos h2, if_pos (by omega)]
    · show (if i < j then some (f i) else none) = _
      rw [if_neg h2, if_neg (by omega)]
theorem g4_up (r j : Nat) : va_up (g4 r j) j (some (r + 252 + 200 * j)) = g4 r (j + 1) := up_if (f := fun i => r + 252 + 200 * i) j
theorem g5_up (r j : Nat) : va_up (g5 r j) j (some (r + 1052 + 6 * j)) = g5 r (j + 1) := up_if (f := fun i => r + 1052 + 6 * i) j
theorem g4_0 (r : Nat) : g4 r 0 = ng := funext fun i => if_neg (by omega)
theorem g5_0 (r : Nat) : g5 r 0 = ng := funext fun i => if_neg (by omega)
def pO (r : Nat) : Lay := .inl (11, [some (some (r + 1)), some (some (r + 3)), some (some (r + 19)), some (some (r + 26)), some (some (r + 226)), some (some (r + 227)), some (some (r + 228)), none, some (some (r + 229)), some (some (r + 232)), some (some (r + 234)), some (some (r + 238)), some (some (r + 242)), some (some (r + 251))])
def lPR (r : Nat) : List Lay := [pO r] ++ (pPx r (g4 r 4) (g5 r 6) ++ (lSS r 4 ++ lUU r 6))
theorem mid_at {o : Lay} {X Y : List Lay} {k : Nat} {y : Lay} (h : X[k]? = some y) : ([o] ++ (X ++ Y))[k + 1]? = some y := by
  show (X ++ Y)[k]? = some y
  exact ap_l h
theorem mid_set {o : Lay} {X Y : List Lay} {k : Nat} {y : Lay} (h : k < X.length) : ([o] ++ (X ++ Y)).set (k + 1) y = [o] ++ (X.set k y ++ Y) := by
  show o :: (X ++ Y).set k y = _
  rw [List.set_append_left _ _ h]
  rfl
set_option maxHeartbeats 4000000 in
set_option maxRecDepth 100000 in
theorem k_PR_rules {l : Launch} {D : va_G} {dA : Nat → ClassId} {zz : (Nat → Nat) × (Nat → Nat)} {bs : Nat} {ly : List Lay} {r : Nat} (hr : ly.length = r) {p : Program} {e : Env} {s : State} {m : MethodId} {args : Array Value} {below : List Frame} {meth : Method} {c : Code} (X : CxK p m meth c cX11_init 2 s args RX11 D dA zz bs) (hr0 : meth.sig.returnType = none) :
    ∀ (n j : Nat), j + n = 6 → ∀ (H : Heap) (locs : List Loc) (ls : Array Slot), Wk D dA bs (ly ++ ([pO r] ++ (pPx r (g4 r 4) (g5 r j) ++ (lSS r 4 ++ lUU r j)))) mz H → va_S (Aq bs) s.heap H locs → lv_has ls 2 [(1, .int (nI j)), (0, .ref (bs + r))] →
    W p l e (rmK 3 66 1087 14830) s m args below meth c H locs (1051 + 6 * j) (11788 + 507 * j) (MQ below (QcK D dA bs (ly ++ lPR r) mz) args s 1087 14830 (Aq bs)) (F0 m 199 ls []) := by
  have hx := X.1.1
  have hb := X.1.2.1
  intro n
  induction n with
  | zero =>
    intro j hj H locs ls hP hS hl
    have hj : j = 6 := by omega
    subst hj
    refine lv_iload_n hx hb dX11_init_199 rfl (lv_at hl 0 rfl) ?_
    refine lv_bipush (v := 6) hx hb dX11_init_200 (by decide) ?_
    refine lv_icmp_ge (tgt := 224) hx hb dX11_init_202 (by decide) (fun _ => ?_) (fun c_1 => absurd (by decide) c_1)
    exact wk_vret X hP hS hr0 dX11_init_224 ⟨rfl, rfl⟩
  | succ n ih =>
    intro j hj H locs ls hP hS hl
    have hlen : (ly ++ ([pO r] ++ (pPx r (g4 r 4) (g5 r j) ++ (lSS r 4 ++ lUU r j)))).length = r + 1052 + 6 * j := by
      rw [List.length_append, List.length_append, List.length_append, List.length_append, pPx_len, lSS_len, lUU_len, hr]
      show r + (1 + (251 + (200 * 4 + 6 * j))) = _
      omega
    refine lv_iload_n hx hb dX11_init_199 rfl (lv_at hl 0 rfl) ?_
    refine lv_bipush (v := 6) hx hb dX11_init_200 (by decide) ?_
    refine lv_icmp_ge (tgt := 224) hx hb dX11_init_202 (by decide) (fun c_1 => absurd c_1 (nI_ge (a := j) (b := 6) (by omega) (by decide))) (fun _ => ?_)
    refine lv_aload_n hx hb dX11_init_205 rfl (lv_at hl 1 rfl) ?_
    refine wd_getR (q := r + 228) X.1 hP.1 (ap_at (k := 0) hr rfl) fl_X11_49 rfl dX11_init_206 ?_
    refine lv_iload_n hx hb dX11_init_209 rfl (lv_at hl 0 rfl) ?_
    refine wk_new X hP hS nn_X11_47 (Zr_mz _) (by show 1051 + 6 * j + 1 ≤ 1087; omega) (by show 11788 + 507 * j + 7 ≤ 14830; omega) dX11_init_210 (fun H hP hS => ?_)
    rw [hlen]
    refine lv_dup hx hb dX11_init_213 rfl ?_
    refine wk_cin X hP hS mi_X11_105 (k_X7_init l D dA zz bs _ (r + 1052 + 6 * j) hlen) rfl ⟨Nat.le_of_ble_eq_true rfl, Nat.le_of_ble_eq_true rfl⟩ hl.1 rfl (rest := [.ref (bs + (r + 1052 + 6 * j)), .int (nI j), .ref (bs + (r + 228))]) (Nat.le_of_ble_eq_true rfl) ⟨by show 1051 + 6 * j + 1 + 5 ≤ 1087; omega, by show 11788 + 507 * j + 7 + 500 ≤ 14830; omega⟩ dX11_init_214 (fun H locs hP hS => ?_)
    have hP : Wk D dA bs (ly ++ ([pO r] ++ (pPx r (g4 r 4) (g5 r j) ++ (lSS r 4 ++ lUU r (j + 1))))) mz H := by
      rw [List.append_assoc, List.append_assoc, List.append_assoc, List.append_assoc] at hP
      exact hP
    have hq : (ly ++ ([pO r] ++ (pPx r (g4 r 4) (g5 r j) ++ (lSS r 4 ++ lUU r (j + 1)))))[r + 1052 + 6 * j]? = (lRule (r + 1052 + 6 * j))[0]? := by
      show (ly ++ ([pO r] ++ (pPx r (g4 r 4) (g5 r j) ++ (lSS r 4 ++ (lUU r j ++ lRule (r + 1052 + 6 * j))))))[r + 1052 + 6 * j]? = _
      rw [← List.append_assoc (lSS r 4), ← List.append_assoc (pPx r (g4 r 4) (g5 r j)), ← List.append_assoc [pO r], ← List.append_assoc ly, List.getElem?_append_right (by rw [hlen]; omega), hlen, Nat.sub_self]
    refine wk_astq (t := 5) (k := j) X hP hS (ap_at (k := 228) hr (mid_at (k := 227) (pPx_b _ _ _))) rfl ⟨by decide, by decide⟩ hq ⟨_, _, rfl⟩ (vp_in_nI (by omega) (by decide)) (nI_clamp (by omega)) dX11_init_217 (fun H locs hP hS => ?_)
    have hP : Wk D dA bs (ly ++ ([pO r] ++ (pPx r (g4 r 4) (g5 r (j + 1)) ++ (lSS r 4 ++ lUU r (j + 1))))) mz H := by
      rw [ap_set (k := 228) hr, mid_set (k := 227) (by rw [pPx_len]; decide), pPx_sb, g5_up] at hP
      exact hP
    refine lv_iinc (v := nI (j + 1)) (lv' := [(1, .int (nI (j + 1))), (0, .ref (bs + r))]) hx hb dX11_init_218 hl (k := 0) rfl (nI_add j 1) (by decide) rfl (fun ls hl => ?_)
    refine lv_goto (tgt := 199) hx hb dX11_init_221 (by decide) ?_
    refine W.widen (k := 1051 + 6 * (j + 1)) (n := 11788 + 507 * (j + 1)) (by omega) (by omega) ?_
    exact ih (j + 1) (by omega) H locs ls hP hS hl
set_option maxHeartbeats 4000000 in
set_option maxRecDepth 100000 in
theorem k_PR_images {l : Launch} {D : va_G} {dA : Nat → ClassId} {zz : (Nat → Nat) × (Nat → Nat)} {bs : Nat} {ly : List Lay} {r : Nat} (hr : ly.length = r) {p : Program} {e : Env} {s : State} {m : MethodId} {args : Array Value} {below : List Frame} {meth : Method} {c : Code} (X : CxK p m meth c cX11_init 2 s args RX11 D dA zz bs) (hr0 : meth.sig.returnType = none) :
    ∀ (n j : Nat), j + n = 4 → ∀ (H : Heap) (locs : List Loc) (ls : Array Slot), Wk D dA bs (ly ++ ([pO r] ++ (pPx r (g4 r j) ng ++ lSS r j))) mz H → va_S (Aq bs) s.heap H locs → lv_has ls 2 [(1, .int (nI j)), (0, .ref (bs + r))] →
    W p l e (rmK 3 66 1087 14830) s m args below meth c H locs (251 + 200 * j) (3824 + 1991 * j) (MQ below (QcK D dA bs (ly ++ lPR r) mz) args s 1087 14830 (Aq bs)) (F0 m 173 ls []) := by
  have hx := X.1.1
  have hb := X.1.2.1
  intro n
  induction n with
  | zero =>
    intro j hj H locs ls hP hS hl
    have hj : j = 4 := by omega
    subst hj
    refine lv_iload_n hx hb dX11_init_173 rfl (lv_at hl 0 rfl) ?_
    refine lv_iconst (v := 4) hx hb dX11_init_174 (by decide) ?_
    refine lv_icmp_ge (tgt := 197) hx hb dX11_init_175 (by decide) (fun _ => ?_) (fun c_1 => absurd (by decide) c_1)
    refine lv_iconst (v := 0) hx hb dX11_init_197 (by decide) ?_
    refine lv_istore_n (lv' := [(1, .int 0), (0, .ref (bs + r))]) hx hb dX11_init_198 rfl hl (by decide) rfl (fun ls hl => ?_)
    refine W.widen (k := 1051 + 6 * 0) (n := 11788 + 507 * 0) (Nat.le_of_ble_eq_true rfl) (Nat.le_of_ble_eq_true rfl) ?_
    refine k_PR_rules hr X hr0 6 0 rfl H locs ls ?_ hS hl
    rw [g5_0, show lSS r 4 ++ lUU r 0 = lSS r 4 from List.append_nil _]
    exact hP
  | succ n ih =>
    intro j hj H locs ls hP hS hl
    have hlen : (ly ++ ([pO r] ++ (pPx r (g4 r j) ng ++ lSS r j))).length = r + 252 + 200 * j := by
      rw [List.length_append, List.length_append, List.length_append, pPx_len, lSS_len, hr]
      show r + (1 + (251 + 200 * j)) = _
      omega
    refine lv_iload_n hx hb dX11_init_173 rfl (lv_at hl 0 rfl) ?_
    refine lv_iconst (v := 4) hx hb dX11_init_174 (by decide) ?_
    refine lv_icmp_ge (tgt := 197) hx hb dX11_init_175 (by decide) (fun c_1 => absurd c_1 (nI_ge (a := j) (b := 4) (by omega) (by decide))) (fun _ => ?_)
    refine lv_aload_n hx hb dX11_init_178 rfl (lv_at hl 1 rfl) ?_
    refine wd_getR (q := r + 226) X.1 hP.1 (ap_at (k := 0) hr rfl) fl_X11_39 rfl dX11_init_179 ?_
    refine lv_iload_n hx hb dX11_init_182 rfl (lv_at hl 0 rfl) ?_
    refine wk_new X hP hS nn_X11_32 (Zr_mz _) (by show 251 + 200 * j + 1 ≤ 1087; omega) (by show 3824 + 1991 * j + 10 ≤ 14830; omega) dX11_init_183 (fun H hP hS => ?_)
    rw [hlen]
    refine lv_dup hx hb dX11_init_186 rfl ?_
    refine wk_ci X hP hS mi_X11_34 (k_X9_init l D dA zz bs _ (r + 252 + 200 * j) hlen) rfl ⟨Nat.le_of_ble_eq_true rfl, Nat.le_of_ble_eq_true rfl⟩ hl.1 rfl (rest := [.ref (bs + (r + 252 + 200 * j)), .int (nI j), .ref (bs + (r + 226))]) (Nat.le_of_ble_eq_true rfl) ⟨by show 251 + 200 * j + 1 + 199 ≤ 1087; omega, by show 3824 + 1991 * j + 10 + 1981 ≤ 14830; omega⟩ dX11_init_187 (fun H locs hP hS => ?_)
    have hP : Wk D dA bs (ly ++ ([pO r] ++ (pPx r (g4 r j) ng ++ lSS r (j + 1)))) mz H := by
      rw [List.append_assoc, List.append_assoc, List.append_assoc] at hP
      exact hP
    have hq : (ly ++ ([pO r] ++ (pPx r (g4 r j) ng ++ lSS r (j + 1))))[r + 252 + 200 * j]? = (lState (r + 252 + 200 * j))[0]? := by
      show (ly ++ ([pO r] ++ (pPx r (g4 r j) ng ++ (lSS r j ++ lState (r + 252 + 200 * j)))))[r + 252 + 200 * j]? = _
      rw [← List.append_assoc (pPx r (g4 r j) ng), ← List.append_assoc [pO r], ← List.append_assoc ly, List.getElem?_append_right (by rw [hlen]; omega), hlen, Nat.sub_self]
    refine wk_astq (t := 4) (k := j) X hP hS (ap_at (k := 226) hr (mid_at (k := 225) (pPx_a _ _ _))) rfl ⟨by decide, by decide⟩ hq ⟨_, _, rfl⟩ (vp_in_nI (by omega) (by decide)) (nI_clamp (by omega)) dX11_init_190 (fun H locs hP hS => ?_)
    have hP : Wk D dA bs (ly ++ ([pO r] ++ (pPx r (g4 r (j + 1)) ng ++ lSS r (j + 1)))) mz H := by
      rw [ap_set (k := 226) hr, mid_set (k := 225) (by rw [pPx_len]; decide), pPx_sa, g4_up] at hP
      exact hP
    refine lv_iinc (v := nI (j + 1)) (lv' := [(1, .int (nI (j + 1))), (0, .ref (bs + r))]) hx hb dX11_init_191 hl (k := 0) rfl (nI_add j 1) (by decide) rfl (fun ls hl => ?_)
    refine lv_goto (tgt := 173) hx hb dX11_init_194 (by decide) ?_
    refine W.widen (k := 251 + 200 * (j + 1)) (n := 3824 + 1991 * (j + 1)) (by omega) (by omega) ?_
    exact ih (j + 1) (by omega) H locs ls hP hS hl
set_option maxHeartbeats 4000000 in
set_option maxRecDepth 100000 in
theorem k_X11_init (l : Launch) (D : va_G) (dA : Nat → ClassId) (zz : (Nat → Nat) × (Nat → Nat)) (bs : Nat) (ly : List Lay) (r : Nat) (hr : ly.length = r) : Mk l D dA zz bs yX11_init cX11_init 2 3 66 1087 14830 [.ref (bs + r)] (ly ++ [.inl (11, [some none, some none, some none, some none, some none, some none, some none, none, some none, some none, some none, some none, some none, some none])]) mz (ly ++ lPR r) mz := by
  refine Mk.of (own := RX11) (by decide) rfl rfl (Nat.le_of_ble_eq_true rfl) ?_
  intro p e s m args below meth c X hin hr0 hP hS ls hl
  have hx := X.1.1
  have hb := X.1.2.1
  obtain ⟨H, hH⟩ : ∃ z : Heap, z = s.heap := ⟨_, rfl⟩
  obtain ⟨locs, hL⟩ : ∃ z : List Loc, z = [] := ⟨_, rfl⟩
  rw [← hH, ← hL]
  have hS : va_S (Aq bs) s.heap H locs := by rw [hH, hL]; exact hS
  have hP : Wk D dA bs (ly ++ (([.inl (11, [some none, some none, some none, some none, some none, some none, some none, none, some none, some none, some none, some none, some none, some none])] : List Lay) ++ pP0 r)) mz H := by rw [hH]; exact hP
  have hl : lv_has ls 2 [(0, .ref (bs + r))] := hl
  refine lv_aload_n hx hb dX11_init_0 rfl (lv_at hl 0 rfl) ?_
  refine W.objInit hx hb X.1.2.2.2.1 (X.1.2.2.2.2.1 _ ol_X11_3) (X.1.2.2.2.2.1 _ ob_i) (X.1.2.2.2.2.1 _ ob_c) rfl (X.1.2.2.1 ▸ hl.1) rfl dX11_init_1 (Nat.le_of_ble_eq_true rfl) (Nat.le_of_ble_eq_true rfl) ?_
  refine W.eq (g2 := F0 m 4 ls []) rfl ?_
  refine lv_aload_n hx hb dX11_init_4 rfl (lv_at hl 0 rfl) ?_
  have hlen : (ly ++ (([.inl (11, [some none, some none, some none, some none, some none, some none, some none, none, some none, some none, some none, some none, some none, some none])] : List Lay) ++ pP0 r)).length = r + 1 := by
    rw [List.length_append, List.length_append, pP0_len, hr]
    rfl
  refine wk_new X hP hS nn_X11_9 (Zr_mz _) (Nat.le_of_ble_eq_true rfl) (Nat.le_of_ble_eq_true rfl) dX11_init_5 (fun H hP hS => ?_)
  rw [hlen]
  have hPn := hP
  rw [List.append_assoc, List.append_assoc] at hP
  refine W.widen (k := 1) (n := 5) (Nat.le_of_ble_eq_true rfl) (Nat.le_of_ble_eq_true rfl) ?_
  refine lv_dup hx hb dX11_init_8 rfl ?_
  refine wk_cin X hPn hS mi_X11_11 (k_X10_init l D dA zz bs (ly ++ (([.inl (11, [some none, some none, some none, some none, some none, some none, some none, none, some none, some none, some none, some none, some none, some none])] : List Lay) ++ pP0 r)) (r + 1) hlen) rfl ⟨Nat.le_of_ble_eq_true rfl, Nat.le_of_ble_eq_true rfl⟩ hl.1 rfl (rest := [.ref (bs + (r + 1)), .ref (bs + (r))]) (Nat.le_of_ble_eq_true rfl) ⟨Nat.le_of_ble_eq_true rfl, Nat.le_of_ble_eq_true rfl⟩ dX11_init_9 (fun H locs hP hS => ?_)
  rw [List.append_assoc, List.append_assoc] at hP
  have hP : Wk D dA bs (ly ++ (([.inl (11, [some none, some none, some none, some none, some none, some none, some none, none, some none, some none, some none, some none, some none, some none])] : List Lay) ++ pP1 r)) mz H := hP
  refine W.widen (k := 2) (n := 405) (Nat.le_of_ble_eq_true rfl) (Nat.le_of_ble_eq_true rfl) ?_
  refine W.eq (g2 := F0 m 12 ls [.ref (bs + (r + 1)), .ref (bs + (r))]) rfl ?_
  refine wk_putR (q := r + 1) X hin hP hS (ap_at (k := 0) hr rfl) ff_X11_12 rfl dX11_init_12 (fun H locs hP hS => ?_)
  rw [ap_set0 hr] at hP
  have hP : Wk D dA bs (ly ++ (([.inl (11, [some (some (r + 1)), some none, some none, some none, some none, some none, some none, none, some none, some none, some none, some none, some none, some none])] : List Lay) ++ pP1 r)) mz H := hP
  refine lv_aload_n hx hb dX11_init_15 rfl (lv_at hl 0 rfl) ?_
  have hlen : (ly ++ (([.inl (11, [some (some (r + 1)), some none, some none, some none, some none, some none, some none, none, some none, some none, some none, some none, some none, some none])] : List Lay) ++ pP1 r)).length = r + 3 := by
    rw [List.length_append, List.length_append, pP1_len, hr]
    rfl
  refine wk_new X hP hS nn_X11_16 (Zr_mz _) (Nat.le_of_ble_eq_true rfl) (Nat.le_of_ble_eq_true rfl) dX11_init_16 (fun H hP hS => ?_)
  rw [hlen]
  have hPn := hP
  rw [List.append_assoc, List.append_assoc] at hP
  refine W.widen (k := 3) (n := 408) (Nat.le_of_ble_eq_true rfl) (Nat.le_of_ble_eq_true rfl) ?_
  refine lv_dup hx hb dX11_init_19 rfl ?_
  refine lv_aload_n hx hb dX11_init_20 rfl (lv_at hl 0 rfl) ?_
  refine wd_getR (q := r + 1) X.1 hP.1 (ap_at (k := 0) hr rfl) fl_X11_12 rfl dX11_init_21 ?_
  refine wk_ci X hPn hS mi_X11_18 (k_X6_init l D dA zz bs (ly ++ (([.inl (11, [some (some (r + 1)), some none, some none, some none, some none, some none, some none, none, some none, some none, some none, some none, some none, some none])] : List Lay) ++ pP1 r)) (r + 3) hlen (r + 1)) rfl ⟨Nat.le_of_ble_eq_true rfl, Nat.le_of_ble_eq_true rfl⟩ hl.1 rfl (rest := [.ref (bs + (r + 3)), .ref (bs + (r))]) (Nat.le_of_ble_eq_true rfl) ⟨Nat.le_of_ble_eq_true rfl, Nat.le_of_ble_eq_true rfl⟩ dX11_init_24 (fun H locs hP hS => ?_)
  rw [List.append_assoc, List.append_assoc] at hP
  have hP : Wk D dA bs (ly ++ (([.inl (11, [some (some (r + 1)), some none, some none, some none, some none, some none, some none, none, some none, some none, some none, some none, some none, some none])] : List Lay) ++ pP2 r)) mz H := hP
  refine W.widen (k := 18) (n := 631) (Nat.le_of_ble_eq_true rfl) (Nat.le_of_ble_eq_true rfl) ?_
  refine W.eq (g2 := F0 m 27 ls [.ref (bs + (r + 3)), .ref (bs + (r))]) rfl ?_
  refine wk_putR (q := r + 3) X hin hP hS (ap_at (k := 0) hr rfl) ff_X11_21 rfl dX11_init_27 (fun H locs hP hS => ?_)
  rw [ap_set0 hr] at hP
  have hP : Wk D dA bs (ly ++ (([.inl (11, [some (some (r + 1)), some (some (r + 3)), some none, some none, some none, some none, some none, none, some none, some none, some none, some none, some none, some none])] : List Lay) ++ pP2 r)) mz H := hP
  refine lv_aload_n hx hb dX11_init_30 rfl (lv_at hl 0 rfl) ?_
  have hlen : (ly ++ (([.inl (11, [some (some (r + 1)), some (some (r + 3)), some none, some none, some none, some none, some none, none, some none, some none, some none, some none, some none, some none])] : List Lay) ++ pP2 r)).length = r + 19 := by
    rw [List.length_append, List.length_append, pP2_len, hr]
    rfl
  refine wk_new X hP hS nn_X11_25 (Zr_mz _) (Nat.le_of_ble_eq_true rfl) (Nat.le_of_ble_eq_true rfl) dX11_init_31 (fun H hP hS => ?_)
  rw [hlen]
  have hPn := hP
  rw [List.append_assoc, List.append_assoc] at hP
  refine W.widen (k := 19) (n := 634) (Nat.le_of_ble_eq_true rfl) (Nat.le_of_ble_eq_true rfl) ?_
  refine lv_dup hx hb dX11_init_34 rfl ?_
  refine lv_aload_n hx hb dX11_init_35 rfl (lv_at hl 0 rfl) ?_
  refine wd_getR (q := r + 1) X.1 hP.1 (ap_at (k := 0) hr rfl) fl_X11_12 rfl dX11_init_36 ?_
  refine wk_ci X hPn hS mi_X11_27 (k_X8_init l D dA zz bs (ly ++ (([.inl (11, [some (some (r + 1)), some (some (r + 3)), some none, some none, some none, some none, some none, none, some none, some none, some none, some none, some none, some none])] : List Lay) ++ pP2 r)) (r + 19) hlen (r + 1)) rfl ⟨Nat.le_of_ble_eq_true rfl, Nat.le_of_ble_eq_true rfl⟩ hl.1 rfl (rest := [.ref (bs + (r + 19)), .ref (bs + (r))]) (Nat.le_of_ble_eq_true rfl) ⟨Nat.le_of_ble_eq_true rfl, Nat.le_of_ble_eq_true rfl⟩ dX11_init_39 (fun H locs hP hS => ?_)
  rw [List.append_assoc, List.append_assoc] at hP
  have hP : Wk D dA bs (ly ++ (([.inl (11, [some (some (r + 1)), some (some (r + 3)), some none, some none, some none, some none, some none, none, some none, some none, some none, some none, some none, some none])] : List Lay) ++ pP3 r)) mz H := hP
  refine W.widen (k := 25) (n := 1141) (Nat.le_of_ble_eq_true rfl) (Nat.le_of_ble_eq_true rfl) ?_
  refine W.eq (g2 := F0 m 42 ls [.ref (bs + (r + 19)), .ref (bs + (r))]) rfl ?_
  refine wk_putR (q := r + 19) X hin hP hS (ap_at (k := 0) hr rfl) ff_X11_28 rfl dX11_init_42 (fun H locs hP hS => ?_)
  rw [ap_set0 hr] at hP
  have hP : Wk D dA bs (ly ++ (([.inl (11, [some (some (r + 1)), some (some (r + 3)), some (some (r + 19)), some none, some none, some none, some none, none, some none, some none, some none, some none, some none, some none])] : List Lay) ++ pP3 r)) mz H := hP
  refine lv_aload_n hx hb dX11_init_45 rfl (lv_at hl 0 rfl) ?_
  have hlen : (ly ++ (([.inl (11, [some (some (r + 1)), some (some (r + 3)), some (some (r + 19)), some none, some none, some none, some none, none, some none, some none, some none, some none, some none, some none])] : List Lay) ++ pP3 r)).length = r + 26 := by
    rw [List.length_append, List.length_append, pP3_len, hr]
    rfl
  refine wk_new X hP hS nn_X11_32 (Zr_mz _) (Nat.le_of_ble_eq_true rfl) (Nat.le_of_ble_eq_true rfl) dX11_init_46 (fun H hP hS => ?_)
  rw [hlen]
  have hPn := hP
  rw [List.append_assoc, List.append_assoc] at hP
  refine W.widen (k := 26) (n := 1151) (Nat.le_of_ble_eq_true rfl) (Nat.le_of_ble_eq_true rfl) ?_
  refine lv_dup hx hb dX11_init_49 rfl ?_
  refine wk_ci X hPn hS mi_X11_34 (k_X9_init l D dA zz bs (ly ++ (([.inl (11, [some (some (r + 1)), some (some (r + 3)), some (some (r + 19)), some none, some none, some none, some none, none, some none, some none, some none, some none, some none, some none])] : List Lay) ++ pP3 r)) (r + 26) hlen) rfl ⟨Nat.le_of_ble_eq_true rfl, Nat.le_of_ble_eq_true rfl⟩ hl.1 rfl (rest := [.ref (bs + (r + 26)), .ref (bs + (r))]) (Nat.le_of_ble_eq_true rfl) ⟨Nat.le_of_ble_eq_true rfl, Nat.le_of_ble_eq_true rfl⟩ dX11_init_50 (fun H locs hP hS => ?_)
  rw [List.append_assoc, List.append_assoc] at hP
  have hP : Wk D dA bs (ly ++ (([.inl (11, [some (some (r + 1)), some (some (r + 3)), some (some (r + 19)), some none, some none, some none, some none, none, some none, some none, some none, some none, some none, some none])] : List Lay) ++ pP4 r)) mz H := hP
  refine W.widen (k := 225) (n := 3132) (Nat.le_of_ble_eq_true rfl) (Nat.le_of_ble_eq_true rfl) ?_
  refine W.eq (g2 := F0 m 53 ls [.ref (bs + (r + 26)), .ref (bs + (r))]) rfl ?_
  refine wk_putR (q := r + 26) X hin hP hS (ap_at (k := 0) hr rfl) ff_X11_35 rfl dX11_init_53 (fun H locs hP hS => ?_)
  rw [ap_set0 hr] at hP
  have hP : Wk D dA bs (ly ++ (([.inl (11, [some (some (r + 1)), some (some (r + 3)), some (some (r + 19)), some (some (r + 26)), some none, some none, some none, none, some none, some none, some none, some none, some none, some none])] : List Lay) ++ pP4 r)) mz H := hP
  refine lv_aload_n hx hb dX11_init_56 rfl (lv_at hl 0 rfl) ?_
  refine lv_iconst (v := 4) hx hb dX11_init_57 (by decide) ?_
  have hlen : (ly ++ (([.inl (11, [some (some (r + 1)), some (some (r + 3)), some (some (r + 19)), some (some (r + 26)), some none, some none, some none, none, some none, some none, some none, some none, some none, some none])] : List Lay) ++ pP4 r)).length = r + 226 := by
    rw [List.length_append, List.length_append, pP4_len, hr]
    rfl
  refine wk_newq (t := 4) (N := 4) X hP hS cl_X11_32 (by decide) rfl ⟨by decide, by decide⟩ (by decide) (by decide) (by decide) (Nat.le_of_ble_eq_true rfl) (Nat.le_of_ble_eq_true rfl) dX11_init_58 (fun H hP hS => ?_)
  rw [hlen]
  rw [List.append_assoc, List.append_assoc] at hP
  have hP : Wk D dA bs (ly ++ (([.inl (11, [some (some (r + 1)), some (some (r + 3)), some (some (r + 19)), some (some (r + 26)), some none, some none, some none, none, some none, some none, some none, some none, some none, some none])] : List Lay) ++ pP5 r)) mz H := hP
  refine W.widen (k := 226) (n := 3136) (Nat.le_of_ble_eq_true rfl) (Nat.le_of_ble_eq_true rfl) ?_
  refine wk_putR (q := r + 226) X hin hP hS (ap_at (k := 0) hr rfl) ff_X11_39 rfl dX11_init_61 (fun H locs hP hS => ?_)
  rw [ap_set0 hr] at hP
  have hP : Wk D dA bs (ly ++ (([.inl (11, [some (some (r + 1)), some (some (r + 3)), some (some (r + 19)), some (some (r + 26)), some (some (r + 226)), some none, some none, none, some none, some none, some none, some none, some none, some none])] : List Lay) ++ pP5 r)) mz H := hP
  refine lv_aload_n hx hb dX11_init_64 rfl (lv_at hl 0 rfl) ?_
  refine lv_iconst (v := 4) hx hb dX11_init_65 (by decide) ?_
  have hlen : (ly ++ (([.inl (11, [some (some (r + 1)), some (some (r + 3)), some (some (r + 19)), some (some (r + 26)), some (some (r + 226)), some none, some none, none, some none, some none, some none, some none, some none, some none])] : List Lay) ++ pP5 r)).length = r + 227 := by
    rw [List.length_append, List.length_append, pP5_len, hr]
    rfl
  refine wk_newZ (N := 4) X hP hS aw_boolean (Zr_mz _) (by decide) (by decide) (by decide) (Nat.le_of_ble_eq_true rfl) (Nat.le_of_ble_eq_true rfl) dX11_init_66 (fun H hP hS => ?_)
  rw [hlen]
  rw [List.append_assoc, List.append_assoc] at hP
  have hP : Wk D dA bs (ly ++ (([.inl (11, [some (some (r + 1)), some (some (r + 3)), some (some (r + 19)), some (some (r + 26)), some (some (r + 226)), some none, some none, none, some none, some none, some none, some none, some none, some none])] : List Lay) ++ pP6 r)) mz H := hP
  refine W.widen (k := 227) (n := 3140) (Nat.le_of_ble_eq_true rfl) (Nat.le_of_ble_eq_true rfl) ?_
  refine wk_putR (q := r + 227) X hin hP hS (ap_at (k := 0) hr rfl) ff_X11_43 rfl dX11_init_68 (fun H locs hP hS => ?_)
  rw [ap_set0 hr] at hP
  have hP : Wk D dA bs (ly ++ (([.inl (11, [some (some (r + 1)), some (some (r + 3)), some (some (r + 19)), some (some (r + 26)), some (some (r + 226)), some (some (r + 227)), some none, none, some none, some none, some none, some none, some none, some none])] : List Lay) ++ pP6 r)) mz H := hP
  refine lv_aload_n hx hb dX11_init_71 rfl (lv_at hl 0 rfl) ?_
  refine lv_bipush (v := 6) hx hb dX11_init_72 (by decide) ?_
  have hlen : (ly ++ (([.inl (11, [some (some (r + 1)), some (some (r + 3)), some (some (r + 19)), some (some (r + 26)), some (some (r + 226)), some (some (r + 227)), some none, none, some none, some none, some none, some none, some none, some none])] : List Lay) ++ pP6 r)).length = r + 228 := by
    rw [List.length_append, List.length_append, pP6_len, hr]
    rfl
  refine wk_newq (t := 5) (N := 6) X hP hS cl_X11_47 (by decide) rfl ⟨by decide, by decide⟩ (by decide) (by decide) (by decide) (Nat.le_of_ble_eq_true rfl) (Nat.le_of_ble_eq_true rfl) dX11_init_74 (fun H hP hS => ?_)
  rw [hlen]
  rw [List.append_assoc, List.append_assoc] at hP
  have hP : Wk D dA bs (ly ++ (([.inl (11, [some (some (r + 1)), some (some (r + 3)), some (some (r + 19)), some (some (r + 26)), some (some (r + 226)), some (some (r + 227)), some none, none, some none, some none, some none, some none, some none, some none])] : List Lay) ++ pP7 r)) mz H := hP
  refine W.widen (k := 228) (n := 3146) (Nat.le_of_ble_eq_true rfl) (Nat.le_of_ble_eq_true rfl) ?_
  refine wk_putR (q := r + 228) X hin hP hS (ap_at (k := 0) hr rfl) ff_X11_49 rfl dX11_init_77 (fun H locs hP hS => ?_)
  rw [ap_set0 hr] at hP
  have hP : Wk D dA bs (ly ++ (([.inl (11, [some (some (r + 1)), some (some (r + 3)), some (some (r + 19)), some (some (r + 26)), some (some (r + 226)), some (some (r + 227)), some (some (r + 228)), none, some none, some none, some none, some none, some none, some none])] : List Lay) ++ pP7 r)) mz H := hP
  refine lv_aload_n hx hb dX11_init_80 rfl (lv_at hl 0 rfl) ?_
  have hlen : (ly ++ (([.inl (11, [some (some (r + 1)), some (some (r + 3)), some (some (r + 19)), some (some (r + 26)), some (some (r + 226)), some (some (r + 227)), some (some (r + 228)), none, some none, some none, some none, some none, some none, some none])] : List Lay) ++ pP7 r)).length = r + 229 := by
    rw [List.length_append, List.length_append, pP7_len, hr]
    rfl
  refine wk_new X hP hS nn_X11_53 (Zr_mz _) (Nat.le_of_ble_eq_true rfl) (Nat.le_of_ble_eq_true rfl) dX11_init_81 (fun H hP hS => ?_)
  rw [hlen]
  have hPn := hP
  rw [List.append_assoc, List.append_assoc] at hP
  refine W.widen (k := 229) (n := 3148) (Nat.le_of_ble_eq_true rfl) (Nat.le_of_ble_eq_true rfl) ?_
  refine lv_dup hx hb dX11_init_84 rfl ?_
  refine wk_cin X hPn hS mi_X11_55 (k_X2_init l D dA zz bs (ly ++ (([.inl (11, [some (some (r + 1)), some (some (r + 3)), some (some (r + 19)), some (some (r + 26)), some (some (r + 226)), some (some (r + 227)), some (some (r + 228)), none, some none, some none, some none, some none, some none, some none])] : List Lay) ++ pP7 r)) (r + 229) hlen) rfl ⟨Nat.le_of_ble_eq_true rfl, Nat.le_of_ble_eq_true rfl⟩ hl.1 rfl (rest := [.ref (bs + (r + 229)), .ref (bs + (r))]) (Nat.le_of_ble_eq_true rfl) ⟨Nat.le_of_ble_eq_true rfl, Nat.le_of_ble_eq_true rfl⟩ dX11_init_85 (fun H locs hP hS => ?_)
  rw [List.append_assoc, List.append_assoc] at hP
  have hP : Wk D dA bs (ly ++ (([.inl (11, [some (some (r + 1)), some (some (r + 3)), some (some (r + 19)), some (some (r + 26)), some (some (r + 226)), some (some (r + 227)), some (some (r + 228)), none, some none, some none, some none, some none, some none, some none])] : List Lay) ++ pP8 r)) mz H := hP
  refine W.widen (k := 231) (n := 3162) (Nat.le_of_ble_eq_true rfl) (Nat.le_of_ble_eq_true rfl) ?_
  refine W.eq (g2 := F0 m 88 ls [.ref (bs + (r + 229)), .ref (bs + (r))]) rfl ?_
  refine wk_putR (q := r + 229) X hin hP hS (ap_at (k := 0) hr rfl) ff_X11_56 rfl dX11_init_88 (fun H locs hP hS => ?_)
  rw [ap_set0 hr] at hP
  have hP : Wk D dA bs (ly ++ (([.inl (11, [some (some (r + 1)), some (some (r + 3)), some (some (r + 19)), some (some (r + 26)), some (some (r + 226)), some (some (r + 227)), some (some (r + 228)), none, some (some (r + 229)), some none, some none, some none, some none, some none])] : List Lay) ++ pP8 r)) mz H := hP
  refine lv_aload_n hx hb dX11_init_91 rfl (lv_at hl 0 rfl) ?_
  have hlen : (ly ++ (([.inl (11, [some (some (r + 1)), some (some (r + 3)), some (some (r + 19)), some (some (r + 26)), some (some (r + 226)), some (some (r + 227)), some (some (r + 228)), none, some (some (r + 229)), some none, some none, some none, some none, some none])] : List Lay) ++ pP8 r)).length = r + 232 := by
    rw [List.length_append, List.length_append, pP8_len, hr]
    rfl
  refine wk_new X hP hS nn_X11_60 (Zr_mz _) (Nat.le_of_ble_eq_true rfl) (Nat.le_of_ble_eq_true rfl) dX11_init_92 (fun H hP hS => ?_)
  rw [hlen]
  have hPn := hP
  rw [List.append_assoc, List.append_assoc] at hP
  refine W.widen (k := 232) (n := 3172) (Nat.le_of_ble_eq_true rfl) (Nat.le_of_ble_eq_true rfl) ?_
  refine lv_dup hx hb dX11_init_95 rfl ?_
  refine lv_aload_n hx hb dX11_init_96 rfl (lv_at hl 0 rfl) ?_
  refine wd_getR (q := r + 26) X.1 hP.1 (ap_at (k := 0) hr rfl) fl_X11_35 rfl dX11_init_97 ?_
  refine lv_aload_n hx hb dX11_init_100 rfl (lv_at hl 0 rfl) ?_
  refine wd_getR (q := r + 229) X.1 hP.1 (ap_at (k := 0) hr rfl) fl_X11_56 rfl dX11_init_101 ?_
  refine wk_ci X hPn hS mi_X11_62 (k_X3_init l D dA zz bs (ly ++ (([.inl (11, [some (some (r + 1)), some (some (r + 3)), some (some (r + 19)), some (some (r + 26)), some (some (r + 226)), some (some (r + 227)), some (some (r + 228)), none, some (some (r + 229)), some none, some none, some none, some none, some none])] : List Lay) ++ pP8 r)) (r + 232) hlen (r + 26) (r + 229) (r + 33) _ (ap_at (k := 26) hr rfl) rfl) rfl ⟨Nat.le_of_ble_eq_true rfl, Nat.le_of_ble_eq_true rfl⟩ hl.1 rfl (rest := [.ref (bs + (r + 232)), .ref (bs + (r))]) (Nat.le_of_ble_eq_true rfl) ⟨Nat.le_of_ble_eq_true rfl, Nat.le_of_ble_eq_true rfl⟩ dX11_init_104 (fun H locs hP hS => ?_)
  rw [List.append_assoc, List.append_assoc] at hP
  have hP : Wk D dA bs (ly ++ (([.inl (11, [some (some (r + 1)), some (some (r + 3)), some (some (r + 19)), some (some (r + 26)), some (some (r + 226)), some (some (r + 227)), some (some (r + 228)), none, some (some (r + 229)), some none, some none, some none, some none, some none])] : List Lay) ++ pP9 r)) mz H := hP
  refine W.widen (k := 233) (n := 3428) (Nat.le_of_ble_eq_true rfl) (Nat.le_of_ble_eq_true rfl) ?_
  refine W.eq (g2 := F0 m 107 ls [.ref (bs + (r + 232)), .ref (bs + (r))]) rfl ?_
  refine wk_putR (q := r + 232) X hin hP hS (ap_at (k := 0) hr rfl) ff_X11_65 rfl dX11_init_107 (fun H locs hP hS => ?_)
  rw [ap_set0 hr] at hP
  have hP : Wk D dA bs (ly ++ (([.inl (11, [some (some (r + 1)), some (some (r + 3)), some (some (r + 19)), some (some (r + 26)), some (some (r + 226)), some (some (r + 227)), some (some (r + 228)), none, some (some (r + 229)), some (some (r + 232)), some none, some none, some none, some none])] : List Lay) ++ pP9 r)) mz H := hP
  refine lv_aload_n hx hb dX11_init_110 rfl (lv_at hl 0 rfl) ?_
  have hlen : (ly ++ (([.inl (11, [some (some (r + 1)), some (some (r + 3)), some (some (r + 19)), some (some (r + 26)), some (some (r + 226)), some (some (r + 227)), some (some (r + 228)), none, some (some (r + 229)), some (some (r + 232)), some none, some none, some none, some none])] : List Lay) ++ pP9 r)).length = r + 234 := by
    rw [List.length_append, List.length_append, pP9_len, hr]
    rfl
  refine wk_new X hP hS nn_X11_69 (Zr_mz _) (Nat.le_of_ble_eq_true rfl) (Nat.le_of_ble_eq_true rfl) dX11_init_111 (fun H hP hS => ?_)
  rw [hlen]
  have hPn := hP
  rw [List.append_assoc, List.append_assoc] at hP
  refine W.widen (k := 234) (n := 3435) (Nat.le_of_ble_eq_true rfl) (Nat.le_of_ble_eq_true rfl) ?_
  refine lv_dup hx hb dX11_init_114 rfl ?_
  refine lv_aload_n hx hb dX11_init_115 rfl (lv_at hl 0 rfl) ?_
  refine wd_getR (q := r + 26) X.1 hP.1 (ap_at (k := 0) hr rfl) fl_X11_35 rfl dX11_init_116 ?_
  refine wd_getR (q := r + 33) X.1 hP.1 (ap_at (k := 26) hr rfl) fl_X11_71 rfl dX11_init_119 ?_
  refine wk_ci X hPn hS mi_X11_75 (k_X1_init l D dA zz bs (ly ++ (([.inl (11, [some (some (r + 1)), some (some (r + 3)), some (some (r + 19)), some (some (r + 26)), some (some (r + 226)), some (some (r + 227)), some (some (r + 228)), none, some (some (r + 229)), some (some (r + 232)), some none, some none, some none, some none])] : List Lay) ++ pP9 r)) (r + 234) hlen (r + 33)) rfl ⟨Nat.le_of_ble_eq_true rfl, Nat.le_of_ble_eq_true rfl⟩ hl.1 rfl (rest := [.ref (bs + (r + 234)), .ref (bs + (r))]) (Nat.le_of_ble_eq_true rfl) ⟨Nat.le_of_ble_eq_true rfl, Nat.le_of_ble_eq_true rfl⟩ dX11_init_122 (fun H locs hP hS => ?_)
  rw [List.append_assoc, List.append_assoc] at hP
  have hP : Wk D dA bs (ly ++ (([.inl (11, [some (some (r + 1)), some (some (r + 3)), some (some (r + 19)), some (some (r + 26)), some (some (r + 226)), some (some (r + 227)), some (some (r + 228)), none, some (some (r + 229)), some (some (r + 232)), some none, some none, some none, some none])] : List Lay) ++ pP10 r)) mz H := hP
  refine W.widen (k := 237) (n := 3705) (Nat.le_of_ble_eq_true rfl) (Nat.le_of_ble_eq_true rfl) ?_
  refine W.eq (g2 := F0 m 125 ls [.ref (bs + (r + 234)), .ref (bs + (r))]) rfl ?_
  refine wk_putR (q := r + 234) X hin hP hS (ap_at (k := 0) hr rfl) ff_X11_78 rfl dX11_init_125 (fun H locs hP hS => ?_)
  rw [ap_set0 hr] at hP
  have hP : Wk D dA bs (ly ++ (([.inl (11, [some (some (r + 1)), some (some (r + 3)), some (some (r + 19)), some (some (r + 26)), some (some (r + 226)), some (some (r + 227)), some (some (r + 228)), none, some (some (r + 229)), some (some (r + 232)), some (some (r + 234)), some none, some none, some none])] : List Lay) ++ pP10 r)) mz H := hP
  refine lv_aload_n hx hb dX11_init_128 rfl (lv_at hl 0 rfl) ?_
  have hlen : (ly ++ (([.inl (11, [some (some (r + 1)), some (some (r + 3)), some (some (r + 19)), some (some (r + 26)), some (some (r + 226)), some (some (r + 227)), some (some (r + 228)), none, some (some (r + 229)), some (some (r + 232)), some (some (r + 234)), some none, some none, some none])] : List Lay) ++ pP10 r)).length = r + 238 := by
    rw [List.length_append, List.length_append, pP10_len, hr]
    rfl
  refine wk_new X hP hS nn_X11_82 (Zr_mz _) (Nat.le_of_ble_eq_true rfl) (Nat.le_of_ble_eq_true rfl) dX11_init_129 (fun H hP hS => ?_)
  rw [hlen]
  have hPn := hP
  rw [List.append_assoc, List.append_assoc] at hP
  refine W.widen (k := 238) (n := 3711) (Nat.le_of_ble_eq_true rfl) (Nat.le_of_ble_eq_true rfl) ?_
  refine lv_dup hx hb dX11_init_132 rfl ?_
  refine lv_aload_n hx hb dX11_init_133 rfl (lv_at hl 0 rfl) ?_
  refine wd_getR (q := r + 26) X.1 hP.1 (ap_at (k := 0) hr rfl) fl_X11_35 rfl dX11_init_134 ?_
  refine wd_getR (q := r + 33) X.1 hP.1 (ap_at (k := 26) hr rfl) fl_X11_71 rfl dX11_init_137 ?_
  refine wk_ci X hPn hS mi_X11_84 (k_X0_init l D dA zz bs (ly ++ (([.inl (11, [some (some (r + 1)), some (some (r + 3)), some (some (r + 19)), some (some (r + 26)), some (some (r + 226)), some (some (r + 227)), some (some (r + 228)), none, some (some (r + 229)), some (some (r + 232)), some (some (r + 234)), some none, some none, some none])] : List Lay) ++ pP10 r)) (r + 238) hlen (r + 33)) rfl ⟨Nat.le_of_ble_eq_true rfl, Nat.le_of_ble_eq_true rfl⟩ hl.1 rfl (rest := [.ref (bs + (r + 238)), .ref (bs + (r))]) (Nat.le_of_ble_eq_true rfl) ⟨Nat.le_of_ble_eq_true rfl, Nat.le_of_ble_eq_true rfl⟩ dX11_init_140 (fun H locs hP hS => ?_)
  rw [List.append_assoc, List.append_assoc] at hP
  have hP : Wk D dA bs (ly ++ (([.inl (11, [some (some (r + 1)), some (some (r + 3)), some (some (r + 19)), some (some (r + 26)), some (some (r + 226)), some (some (r + 227)), some (some (r + 228)), none, some (some (r + 229)), some (some (r + 232)), some (some (r + 234)), some none, some none, some none])] : List Lay) ++ pP11 r)) mz H := hP
  refine W.widen (k := 241) (n := 3735) (Nat.le_of_ble_eq_true rfl) (Nat.le_of_ble_eq_true rfl) ?_
  refine W.eq (g2 := F0 m 143 ls [.ref (bs + (r + 238)), .ref (bs + (r))]) rfl ?_
  refine wk_putR (q := r + 238) X hin hP hS (ap_at (k := 0) hr rfl) ff_X11_85 rfl dX11_init_143 (fun H locs hP hS => ?_)
  rw [ap_set0 hr] at hP
  have hP : Wk D dA bs (ly ++ (([.inl (11, [some (some (r + 1)), some (some (r + 3)), some (some (r + 19)), some (some (r + 26)), some (some (r + 226)), some (some (r + 227)), some (some (r + 228)), none, some (some (r + 229)), some (some (r + 232)), some (some (r + 234)), some (some (r + 238)), some none, some none])] : List Lay) ++ pP11 r)) mz H := hP
  refine lv_aload_n hx hb dX11_init_146 rfl (lv_at hl 0 rfl) ?_
  have hlen : (ly ++ (([.inl (11, [some (some (r + 1)), some (some (r + 3)), some (some (r + 19)), some (some (r + 26)), some (some (r + 226)), some (some (r + 227)), some (some (r + 228)), none, some (some (r + 229)), some (some (r + 232)), some (some (r + 234)), some (some (r + 238)), some none, some none])] : List Lay) ++ pP11 r)).length = r + 242 := by
    rw [List.length_append, List.length_append, pP11_len, hr]
    rfl
  refine wk_new X hP hS nn_X11_89 (Zr_mz _) (Nat.le_of_ble_eq_true rfl) (Nat.le_of_ble_eq_true rfl) dX11_init_147 (fun H hP hS => ?_)
  rw [hlen]
  have hPn := hP
  rw [List.append_assoc, List.append_assoc] at hP
  refine W.widen (k := 242) (n := 3747) (Nat.le_of_ble_eq_true rfl) (Nat.le_of_ble_eq_true rfl) ?_
  refine lv_dup hx hb dX11_init_150 rfl ?_
  refine lv_aload_n hx hb dX11_init_151 rfl (lv_at hl 0 rfl) ?_
  refine wd_getR (q := r + 26) X.1 hP.1 (ap_at (k := 0) hr rfl) fl_X11_35 rfl dX11_init_152 ?_
  refine wd_getR (q := r + 27) X.1 hP.1 (ap_at (k := 26) hr rfl) fl_X11_91 rfl dX11_init_155 ?_
  refine wk_ci X hPn hS mi_X11_95 (k_X4_init l D dA zz bs (ly ++ (([.inl (11, [some (some (r + 1)), some (some (r + 3)), some (some (r + 19)), some (some (r + 26)), some (some (r + 226)), some (some (r + 227)), some (some (r + 228)), none, some (some (r + 229)), some (some (r + 232)), some (some (r + 234)), some (some (r + 238)), some none, some none])] : List Lay) ++ pP11 r)) (r + 242) hlen (r + 27)) rfl ⟨Nat.le_of_ble_eq_true rfl, Nat.le_of_ble_eq_true rfl⟩ hl.1 rfl (rest := [.ref (bs + (r + 242)), .ref (bs + (r))]) (Nat.le_of_ble_eq_true rfl) ⟨Nat.le_of_ble_eq_true rfl, Nat.le_of_ble_eq_true rfl⟩ dX11_init_158 (fun H locs hP hS => ?_)
  rw [List.append_assoc, List.append_assoc] at hP
  have hP : Wk D dA bs (ly ++ (([.inl (11, [some (some (r + 1)), some (some (r + 3)), some (some (r + 19)), some (some (r + 26)), some (some (r + 226)), some (some (r + 227)), some (some (r + 228)), none, some (some (r + 229)), some (some (r + 232)), some (some (r + 234)), some (some (r + 238)), some none, some none])] : List Lay) ++ pP12 r)) mz H := hP
  refine W.widen (k := 250) (n := 3821) (Nat.le_of_ble_eq_true rfl) (Nat.le_of_ble_eq_true rfl) ?_
  refine W.eq (g2 := F0 m 161 ls [.ref (bs + (r + 242)), .ref (bs + (r))]) rfl ?_
  refine wk_putR (q := r + 242) X hin hP hS (ap_at (k := 0) hr rfl) ff_X11_98 rfl dX11_init_161 (fun H locs hP hS => ?_)
  rw [ap_set0 hr] at hP
  have hP : Wk D dA bs (ly ++ (([.inl (11, [some (some (r + 1)), some (some (r + 3)), some (some (r + 19)), some (some (r + 26)), some (some (r + 226)), some (some (r + 227)), some (some (r + 228)), none, some (some (r + 229)), some (some (r + 232)), some (some (r + 234)), some (some (r + 238)), some (some (r + 242)), some none])] : List Lay) ++ pP12 r)) mz H := hP
  refine lv_aload_n hx hb dX11_init_164 rfl (lv_at hl 0 rfl) ?_
  refine lv_iconst (v := 3) hx hb dX11_init_165 (by decide) ?_
  have hlen : (ly ++ (([.inl (11, [some (some (r + 1)), some (some (r + 3)), some (some (r + 19)), some (some (r + 26)), some (some (r + 226)), some (some (r + 227)), some (some (r + 228)), none, some (some (r + 229)), some (some (r + 232)), some (some (r + 234)), some (some (r + 238)), some (some (r + 242)), some none])] : List Lay) ++ pP12 r)).length = r + 251 := by
    rw [List.length_append, List.length_append, pP12_len, hr]
    rfl
  refine wk_newI (N := 3) X hP hS aw_int (Zr_mz _) (by decide) (by decide) (by decide) (Nat.le_of_ble_eq_true rfl) (Nat.le_of_ble_eq_true rfl) dX11_init_166 (fun H hP hS => ?_)
  rw [hlen]
  rw [List.append_assoc, List.append_assoc] at hP
  have hP : Wk D dA bs (ly ++ (([.inl (11, [some (some (r + 1)), some (some (r + 3)), some (some (r + 19)), some (some (r + 26)), some (some (r + 226)), some (some (r + 227)), some (some (r + 228)), none, some (some (r + 229)), some (some (r + 232)), some (some (r + 234)), some (some (r + 238)), some (some (r + 242)), some none])] : List Lay) ++ pP13 r)) mz H := hP
  refine W.widen (k := 251) (n := 3824) (Nat.le_of_ble_eq_true rfl) (Nat.le_of_ble_eq_true rfl) ?_
  refine wk_putR (q := r + 251) X hin hP hS (ap_at (k := 0) hr rfl) ff_X11_101 rfl dX11_init_168 (fun H locs hP hS => ?_)
  rw [ap_set0 hr] at hP
  have hP : Wk D dA bs (ly ++ (([.inl (11, [some (some (r + 1)), some (some (r + 3)), some (some (r + 19)), some (some (r + 26)), some (some (r + 226)), some (some (r + 227)), some (some (r + 228)), none, some (some (r + 229)), some (some (r + 232)), some (some (r + 234)), some (some (r + 238)), some (some (r + 242)), some (some (r + 251))])] : List Lay) ++ pP13 r)) mz H := hP
  refine lv_iconst (v := 0) hx hb dX11_init_171 (by decide) ?_
  refine lv_istore_n (lv' := [(1, .int 0), (0, .ref (bs + r))]) hx hb dX11_init_172 rfl hl (by decide) rfl (fun ls hl => ?_)
  refine W.widen (k := 251 + 200 * 0) (n := 3824 + 1991 * 0) (Nat.le_of_ble_eq_true rfl) (Nat.le_of_ble_eq_true rfl) ?_
  refine k_PR_images hr X hr0 4 0 rfl H locs ls ?_ hS hl
  rw [g4_0, pPx_0, show pP13 r ++ lSS r 0 = pP13 r from List.append_nil _]
  exact hP
