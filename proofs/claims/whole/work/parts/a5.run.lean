/-! PHASE 2: run, the words -/
def tcb (L : Rop) (a b k : Nat) : Bool := decide ((rp L k).1 = a ∨ (rp L k).2.1 = a ∨ (rp L k).1 = b ∨ (rp L k).2.1 = b)
noncomputable def Wrd (V : Dat) (R : Rf) (a b w : Nat) : Int64 :=
  if w = 0 then (nI a).toInt64
  else if w = 1 then (nI b).toInt64
  else if w = 2 then (nI (R.1 3 a) + nI (R.1 3 b)).toInt64
  else if w = 3 then (nI (V 4 a) + nI (V 4 b)).toInt64
  else if w = 4 then (nI (V 5 a) + nI (V 5 b)).toInt64
  else if w = 5 then (if R.1 2 a = R.1 2 b then 1 else 0)
  else if w = 6 then (if (pOf V R.1 R.2.1 0 a).testBit b = true then 0 else 1)
  else if w = 7 then (nI (cnt (tcb R.2.1 a b) R.2.1.length)).toInt64
  else if w = 8 then R.2.2.toInt64
  else if w = 9 then (nI (R.1 0 1)).toInt64
  else if w = 10 then (nI (if V 2 (R.1 2 b) < V 2 (R.1 2 a) then V 2 (R.1 2 b) else V 2 (R.1 2 a))).toInt64
  else (nI (pop (thA V R.1 0) 12)).toInt64
theorem wd_0 {mm : Mm} {V : Dat} {R : Rf} (hv : RvC mm 27 V) (ov : RvOk V) (hr : RaC mm 33 V R.1 R.2.1 R.2.2) (oa : RaOk V R.1 R.2.1) (hp : ∀ t, t < 8 → mm.1 230 t = nI (pOf V R.1 R.2.1 0 t)) {a b : Nat} (ha : a < V 1 2) (hb : b < V 1 2) : f_X7_wordOf mm (nI 0) (nI a) (nI b) = some (Wrd V R a b 0) := by
  have h8 := ov.2.2.1
  have h12 := oa.2.1
  have ga := gd_ok (show a < 8 by omega) (by decide)
  have gb := gd_ok (show b < 8 by omega) (by decide)
  have va := hr.2.2.2.2 a ha
  have vb := hr.2.2.2.2 b hb
  have ra := hv.2.2.1 a ha
  have rb := hv.2.2.1 b hb
  have oaa := oa.2.2.2.1 a ha
  have oab := oa.2.2.2.1 b hb
  rfl
theorem wd_1 {mm : Mm} {V : Dat} {R : Rf} (hv : RvC mm 27 V) (ov : RvOk V) (hr : RaC mm 33 V R.1 R.2.1 R.2.2) (oa : RaOk V R.1 R.2.1) (hp : ∀ t, t < 8 → mm.1 230 t = nI (pOf V R.1 R.2.1 0 t)) {a b : Nat} (ha : a < V 1 2) (hb : b < V 1 2) : f_X7_wordOf mm (nI 1) (nI a) (nI b) = some (Wrd V R a b 1) := by
  have h8 := ov.2.2.1
  have h12 := oa.2.1
  have ga := gd_ok (show a < 8 by omega) (by decide)
  have gb := gd_ok (show b < 8 by omega) (by decide)
  have va := hr.2.2.2.2 a ha
  have vb := hr.2.2.2.2 b hb
  have ra := hv.2.2.1 a ha
  have rb := hv.2.2.1 b hb
  have oaa := oa.2.2.2.1 a ha
  have oab := oa.2.2.2.1 b hb
  rfl
theorem wd_2 {mm : Mm} {V : Dat} {R : Rf} (hv : RvC mm 27 V) (ov : RvOk V) (hr : RaC mm 33 V R.1 R.2.1 R.2.2) (oa : RaOk V R.1 R.2.1) (hp : ∀ t, t < 8 → mm.1 230 t = nI (pOf V R.1 R.2.1 0 t)) {a b : Nat} (ha : a < V 1 2) (hb : b < V 1 2) : f_X7_wordOf mm (nI 2) (nI a) (nI b) = some (Wrd V R a b 2) := by
  have h8 := ov.2.2.1
  have h12 := oa.2.1
  have ga := gd_ok (show a < 8 by omega) (by decide)
  have gb := gd_ok (show b < 8 by omega) (by decide)
  have va := hr.2.2.2.2 a ha
  have vb := hr.2.2.2.2 b hb
  have ra := hv.2.2.1 a ha
  have rb := hv.2.2.1 b hb
  have oaa := oa.2.2.2.1 a ha
  have oab := oa.2.2.2.1 b hb
  unfold f_X7_wordOf Wrd
  rw [if_neg (show ¬ nI 2 = (0 : Int32) by decide), if_neg (show ¬ nI 2 = (1 : Int32) by decide), if_pos (show nI 2 = (2 : Int32) from rfl), if_neg (show ¬ 2 = 0 by decide), if_neg (show ¬ 2 = 1 by decide), if_pos (show 2 = 2 from rfl)]
  rw [if_neg ga, if_neg gb, cl_ok (by omega), cl_ok (by omega), show mm.1 36 a = nI (R.1 3 a) from va.2.1, show mm.1 36 b = nI (R.1 3 b) from vb.2.1]
theorem wd_3 {mm : Mm} {V : Dat} {R : Rf} (hv : RvC mm 27 V) (ov : RvOk V) (hr : RaC mm 33 V R.1 R.2.1 R.2.2) (oa : RaOk V R.1 R.2.1) (hp : ∀ t, t < 8 → mm.1 230 t = nI (pOf V R.1 R.2.1 0 t)) {a b : Nat} (ha : a < V 1 2) (hb : b < V 1 2) : f_X7_wordOf mm (nI 3) (nI a) (nI b) = some (Wrd V R a b 3) := by
  have h8 := ov.2.2.1
  have h12 := oa.2.1
  have ga := gd_ok (show a < 8 by omega) (by decide)
  have gb := gd_ok (show b < 8 by omega) (by decide)
  have va := hr.2.2.2.2 a ha
  have vb := hr.2.2.2.2 b hb
  have ra := hv.2.2.1 a ha
  have rb := hv.2.2.1 b hb
  have oaa := oa.2.2.2.1 a ha
  have oab := oa.2.2.2.1 b hb
  unfold f_X7_wordOf Wrd
  rw [if_neg (show ¬ nI 3 = (0 : Int32) by decide), if_neg (show ¬ nI 3 = (1 : Int32) by decide), if_neg (show ¬ nI 3 = (2 : Int32) by decide), if_pos (show nI 3 = (3 : Int32) from rfl), if_neg (show ¬ 3 = 0 by decide), if_neg (show ¬ 3 = 1 by decide), if_neg (show ¬ 3 = 2 by decide), if_pos (show 3 = 3 from rfl)]
  rw [if_neg ga, if_neg gb, cl_ok (by omega), cl_ok (by omega), show mm.1 30 a = nI (V 4 a) from ra.1, show mm.1 30 b = nI (V 4 b) from rb.1]
theorem wd_4 {mm : Mm} {V : Dat} {R : Rf} (hv : RvC mm 27 V) (ov : RvOk V) (hr : RaC mm 33 V R.1 R.2.1 R.2.2) (oa : RaOk V R.1 R.2.1) (hp : ∀ t, t < 8 → mm.1 230 t = nI (pOf V R.1 R.2.1 0 t)) {a b : Nat} (ha : a < V 1 2) (hb : b < V 1 2) : f_X7_wordOf mm (nI 4) (nI a) (nI b) = some (Wrd V R a b 4) := by
  have h8 := ov.2.2.1
  have h12 := oa.2.1
  have ga := gd_ok (show a < 8 by omega) (by decide)
  have gb := gd_ok (show b < 8 by omega) (by decide)
  have va := hr.2.2.2.2 a ha
  have vb := hr.2.2.2.2 b hb
  have ra := hv.2.2.1 a ha
  have rb := hv.2.2.1 b hb
  have oaa := oa.2.2.2.1 a ha
  have oab := oa.2.2.2.1 b hb
  unfold f_X7_wordOf Wrd
  rw [if_neg (show ¬ nI 4 = (0 : Int32) by decide), if_neg (show ¬ nI 4 = (1 : Int32) by decide), if_neg (show ¬ nI 4 = (2 : Int32) by decide), if_neg (show ¬ nI 4 = (3 : Int32) by decide), if_pos (show nI 4 = (4 : Int32) from rfl), if_neg (show ¬ 4 = 0 by decide), if_neg (show ¬ 4 = 1 by decide), if_neg (show ¬ 4 = 2 by decide), if_neg (show ¬ 4 = 3 by decide), if_pos (show 4 = 4 from rfl)]
  rw [if_neg ga, if_neg gb, cl_ok (by omega), cl_ok (by omega), show mm.1 31 a = nI (V 5 a) from ra.2, show mm.1 31 b = nI (V 5 b) from rb.2]
theorem wd_5 {mm : Mm} {V : Dat} {R : Rf} (hv : RvC mm 27 V) (ov : RvOk V) (hr : RaC mm 33 V R.1 R.2.1 R.2.2) (oa : RaOk V R.1 R.2.1) (hp : ∀ t, t < 8 → mm.1 230 t = nI (pOf V R.1 R.2.1 0 t)) {a b : Nat} (ha : a < V 1 2) (hb : b < V 1 2) : f_X7_wordOf mm (nI 5) (nI a) (nI b) = some (Wrd V R a b 5) := by
  have h8 := ov.2.2.1
  have h12 := oa.2.1
  have ga := gd_ok (show a < 8 by omega) (by decide)
  have gb := gd_ok (show b < 8 by omega) (by decide)
  have va := hr.2.2.2.2 a ha
  have vb := hr.2.2.2.2 b hb
  have ra := hv.2.2.1 a ha
  have rb := hv.2.2.1 b hb
  have oaa := oa.2.2.2.1 a ha
  have oab := oa.2.2.2.1 b hb
  unfold f_X7_wordOf Wrd
  rw [if_neg (show ¬ nI 5 = (0 : Int32) by decide), if_neg (show ¬ nI 5 = (1 : Int32) by decide), if_neg (show ¬ nI 5 = (2 : Int32) by decide), if_neg (show ¬ nI 5 = (3 : Int32) by decide), if_neg (show ¬ nI 5 = (4 : Int32) by decide), if_pos (show nI 5 = (5 : Int32) from rfl), if_neg (show ¬ 5 = 0 by decide), if_neg (show ¬ 5 = 1 by decide), if_neg (show ¬ 5 = 2 by decide), if_neg (show ¬ 5 = 3 by decide), if_neg (show ¬ 5 = 4 by decide), if_pos (show 5 = 5 from rfl)]
  have h6 := ov.2.1
  rw [if_neg ga, if_neg gb, cl_ok (by omega), cl_ok (by omega), show mm.1 35 a = nI (R.1 2 a) from va.1, show mm.1 35 b = nI (R.1 2 b) from vb.1]
  by_cases c : R.1 2 a = R.1 2 b
  · rw [if_pos (by rw [c]), if_pos c]
  · rw [if_neg (by rw [sN_eq (by omega) (by omega)]; exact c), if_neg c]
theorem wd_6 {mm : Mm} {V : Dat} {R : Rf} (hv : RvC mm 27 V) (ov : RvOk V) (hr : RaC mm 33 V R.1 R.2.1 R.2.2) (oa : RaOk V R.1 R.2.1) (hp : ∀ t, t < 8 → mm.1 230 t = nI (pOf V R.1 R.2.1 0 t)) {a b : Nat} (ha : a < V 1 2) (hb : b < V 1 2) : f_X7_wordOf mm (nI 6) (nI a) (nI b) = some (Wrd V R a b 6) := by
  have h8 := ov.2.2.1
  have h12 := oa.2.1
  have ga := gd_ok (show a < 8 by omega) (by decide)
  have gb := gd_ok (show b < 8 by omega) (by decide)
  have va := hr.2.2.2.2 a ha
  have vb := hr.2.2.2.2 b hb
  have ra := hv.2.2.1 a ha
  have rb := hv.2.2.1 b hb
  have oaa := oa.2.2.2.1 a ha
  have oab := oa.2.2.2.1 b hb
  show (if nI a < 0 ∨ 8 ≤ (nI a).toNatClampNeg then none else if (f_X11_contains (mm.1 230 (nI a).toNatClampNeg) (nI b)) = 0 then some (1 : Int64) else some (0 : Int64)) = some (if (pOf V R.1 R.2.1 0 a).testBit b = true then 0 else 1)
  have := pOf_lt V R.1 R.2.1 0 a
  rw [if_neg ga, cl_ok (by omega), hp a (by omega), cont_ok (by omega) (by omega)]
  by_cases c : (pOf V R.1 R.2.1 0 a).testBit b = true
  · rw [if_pos c, if_pos c, if_neg (by decide)]
  · rw [if_neg c, if_neg c, if_pos rfl]
theorem wd_7 {mm : Mm} {V : Dat} {R : Rf} (hv : RvC mm 27 V) (ov : RvOk V) (hr : RaC mm 33 V R.1 R.2.1 R.2.2) (oa : RaOk V R.1 R.2.1) (hp : ∀ t, t < 8 → mm.1 230 t = nI (pOf V R.1 R.2.1 0 t)) {a b : Nat} (ha : a < V 1 2) (hb : b < V 1 2) : f_X7_wordOf mm (nI 7) (nI a) (nI b) = some (Wrd V R a b 7) := by
  have h8 := ov.2.2.1
  have h12 := oa.2.1
  have ga := gd_ok (show a < 8 by omega) (by decide)
  have gb := gd_ok (show b < 8 by omega) (by decide)
  have va := hr.2.2.2.2 a ha
  have vb := hr.2.2.2.2 b hb
  have ra := hv.2.2.1 a ha
  have rb := hv.2.2.1 b hb
  have oaa := oa.2.2.2.1 a ha
  have oab := oa.2.2.2.1 b hb
  show (bi1 (f_X4_ropesOf mm 33 27 (((1 : Int32) <<< (nI a &&& 31)) ||| ((1 : Int32) <<< (nI b &&& 31)))) fun r_21 => some ((f_J6_bitCount_0f7a4 r_21).toInt64)) = some ((nI (cnt (tcb R.2.1 a b) R.2.1.length)).toInt64)
  have h2a : 2 ^ a < 2 ^ 8 := Nat.pow_lt_pow_right (by decide) (by omega)
  have h2b : 2 ^ b < 2 ^ 8 := Nat.pow_lt_pow_right (by decide) (by omega)
  have hor : 2 ^ a ||| 2 ^ b < 2 ^ 8 := Nat.or_lt_two_pow h2a h2b
  rw [nx_sh a (by omega), nx_sh b (by omega), nx_or, ropesOf_c ov hr oa (by omega), bi1_s]
  unfold rpO
  rw [bitc_bset h12, cnt_ext (fun k hk => ?_)]
  have t : ∀ x, (2 ^ a ||| 2 ^ b).testBit x = decide (a = x ∨ b = x) := fun x => by
    rw [Nat.testBit_or, Nat.testBit_two_pow, Nat.testBit_two_pow, ← Bool.decide_or]
  rw [t, t, ← Bool.decide_or]
  unfold tcb
  apply decide_eq_decide.2
  omega
theorem wd_8 {mm : Mm} {V : Dat} {R : Rf} (hv : RvC mm 27 V) (ov : RvOk V) (hr : RaC mm 33 V R.1 R.2.1 R.2.2) (oa : RaOk V R.1 R.2.1) (hp : ∀ t, t < 8 → mm.1 230 t = nI (pOf V R.1 R.2.1 0 t)) {a b : Nat} (ha : a < V 1 2) (hb : b < V 1 2) : f_X7_wordOf mm (nI 8) (nI a) (nI b) = some (Wrd V R a b 8) := by
  have h8 := ov.2.2.1
  have h12 := oa.2.1
  have ga := gd_ok (show a < 8 by omega) (by decide)
  have gb := gd_ok (show b < 8 by omega) (by decide)
  have va := hr.2.2.2.2 a ha
  have vb := hr.2.2.2.2 b hb
  have ra := hv.2.2.1 a ha
  have rb := hv.2.2.1 b hb
  have oaa := oa.2.2.2.1 a ha
  have oab := oa.2.2.2.1 b hb
  show some ((mm.1 33 2).toInt64) = some (R.2.2.toInt64)
  rw [hr.2.1]
theorem wd_9 {mm : Mm} {V : Dat} {R : Rf} (hv : RvC mm 27 V) (ov : RvOk V) (hr : RaC mm 33 V R.1 R.2.1 R.2.2) (oa : RaOk V R.1 R.2.1) (hp : ∀ t, t < 8 → mm.1 230 t = nI (pOf V R.1 R.2.1 0 t)) {a b : Nat} (ha : a < V 1 2) (hb : b < V 1 2) : f_X7_wordOf mm (nI 9) (nI a) (nI b) = some (Wrd V R a b 9) := by
  have h8 := ov.2.2.1
  have h12 := oa.2.1
  have ga := gd_ok (show a < 8 by omega) (by decide)
  have gb := gd_ok (show b < 8 by omega) (by decide)
  have va := hr.2.2.2.2 a ha
  have vb := hr.2.2.2.2 b hb
  have ra := hv.2.2.1 a ha
  have rb := hv.2.2.1 b hb
  have oaa := oa.2.2.2.1 a ha
  have oab := oa.2.2.2.1 b hb
  show some ((mm.1 33 1).toInt64) = some ((nI (R.1 0 1)).toInt64)
  rw [hr.1]
theorem wd_10 {mm : Mm} {V : Dat} {R : Rf} (hv : RvC mm 27 V) (ov : RvOk V) (hr : RaC mm 33 V R.1 R.2.1 R.2.2) (oa : RaOk V R.1 R.2.1) (hp : ∀ t, t < 8 → mm.1 230 t = nI (pOf V R.1 R.2.1 0 t)) {a b : Nat} (ha : a < V 1 2) (hb : b < V 1 2) : f_X7_wordOf mm (nI 10) (nI a) (nI b) = some (Wrd V R a b 10) := by
  have h8 := ov.2.2.1
  have h12 := oa.2.1
  have ga := gd_ok (show a < 8 by omega) (by decide)
  have gb := gd_ok (show b < 8 by omega) (by decide)
  have va := hr.2.2.2.2 a ha
  have vb := hr.2.2.2.2 b hb
  have ra := hv.2.2.1 a ha
  have rb := hv.2.2.1 b hb
  have oaa := oa.2.2.2.1 a ha
  have oab := oa.2.2.2.1 b hb
  show (bi1 (f_X4_landingOf mm 33 27 (nI a)) fun r_26 => bi1 (f_X4_landingOf mm 33 27 (nI b)) fun r_28 => some ((if r_28 < r_26 then r_28 else r_26).toInt64)) = some ((nI (if V 2 (R.1 2 b) < V 2 (R.1 2 a) then V 2 (R.1 2 b) else V 2 (R.1 2 a))).toInt64)
  have l1 := ov.2.2.2.1 (R.1 2 a) oaa.1
  have l2 := ov.2.2.2.1 (R.1 2 b) oab.1
  have h99 := ov.1
  rw [landingOf_c hv ov hr oa ha, bi1_s, landingOf_c hv ov hr oa hb, bi1_s]
  by_cases c : V 2 (R.1 2 b) < V 2 (R.1 2 a)
  · rw [if_pos c, if_pos (by rw [sN_lt (by omega) (by omega)]; exact c)]
  · rw [if_neg c, if_neg (by rw [sN_lt (by omega) (by omega)]; exact c)]
theorem wd_11 {mm : Mm} {V : Dat} {R : Rf} (hv : RvC mm 27 V) (ov : RvOk V) (hr : RaC mm 33 V R.1 R.2.1 R.2.2) (oa : RaOk V R.1 R.2.1) (hp : ∀ t, t < 8 → mm.1 230 t = nI (pOf V R.1 R.2.1 0 t)) {a b : Nat} (ha : a < V 1 2) (hb : b < V 1 2) : f_X7_wordOf mm (nI 11) (nI a) (nI b) = some (Wrd V R a b 11) := by
  have h8 := ov.2.2.1
  have h12 := oa.2.1
  have ga := gd_ok (show a < 8 by omega) (by decide)
  have gb := gd_ok (show b < 8 by omega) (by decide)
  have va := hr.2.2.2.2 a ha
  have vb := hr.2.2.2.2 b hb
  have ra := hv.2.2.1 a ha
  have rb := hv.2.2.1 b hb
  have oaa := oa.2.2.2.1 a ha
  have oab := oa.2.2.2.1 b hb
  show (bi1 (f_X4_thingsAt mm 33 27 (0 : Int32)) fun r_30 => some ((f_J6_bitCount_0f7a4 r_30).toInt64)) = some ((nI (pop (thA V R.1 0) 12)).toInt64)
  have := thA_lt (V := V) (A := R.1) (w := 0) h8
  rw [show (0 : Int32) = nI 0 from rfl, thingsAt_c hv ov hr oa (by decide), bi1_s, bitc_ok _ (by omega)]
theorem wordOf_c {mm : Mm} {V : Dat} {R : Rf} (hv : RvC mm 27 V) (ov : RvOk V) (hr : RaC mm 33 V R.1 R.2.1 R.2.2) (oa : RaOk V R.1 R.2.1) (hp : ∀ t, t < 8 → mm.1 230 t = nI (pOf V R.1 R.2.1 0 t)) {a b : Nat} (ha : a < V 1 2) (hb : b < V 1 2) : ∀ w, w < 12 → f_X7_wordOf mm (nI w) (nI a) (nI b) = some (Wrd V R a b w) := by
  intro w hw
  rcases (show w = 0 ∨ w = 1 ∨ w = 2 ∨ w = 3 ∨ w = 4 ∨ w = 5 ∨ w = 6 ∨ w = 7 ∨ w = 8 ∨ w = 9 ∨ w = 10 ∨ w = 11 by omega) with q | q | q | q | q | q | q | q | q | q | q | q <;> subst q
  · exact wd_0 hv ov hr oa hp ha hb
  · exact wd_1 hv ov hr oa hp ha hb
  · exact wd_2 hv ov hr oa hp ha hb
  · exact wd_3 hv ov hr oa hp ha hb
  · exact wd_4 hv ov hr oa hp ha hb
  · exact wd_5 hv ov hr oa hp ha hb
  · exact wd_6 hv ov hr oa hp ha hb
  · exact wd_7 hv ov hr oa hp ha hb
  · exact wd_8 hv ov hr oa hp ha hb
  · exact wd_9 hv ov hr oa hp ha hb
  · exact wd_10 hv ov hr oa hp ha hb
  · exact wd_11 hv ov hr oa hp ha hb
theorem asks_l {mm : Mm} {V : Dat} {R : Rf} (hv : RvF mm V) (ov : RvOk V) (hr : RaF mm V R.1 R.2.1 R.2.2) (oa : RaOk V R.1 R.2.1) {a b : Nat} (ha : a < V 1 2 ∧ R.1 4 a = 0) (hb : b < V 1 2) : lp (f_X12_asks_s5 mm (nI a) (nI b)) ((0 : Int32), (0 : Int32)) = some (nI (cnt (tcb R.2.1 a b) R.2.1.length)) := by
  have h8 := ov.2.2.1
  have h6 := ov.2.1
  have h12 := oa.2.1
  have h99 := ov.1
  have ga := gd_ok (show a < 8 by omega) (by decide)
  have gb := gd_ok (show b < 8 by omega) (by decide)
  have va := hr.2.2.2.2 a ha.1
  have vb := hr.2.2.2.2 b hb
  have ra := hv.2.2.1 a ha.1
  have rb := hv.2.2.1 b hb
  have oaa := oa.2.2.2.1 a ha.1
  have oab := oa.2.2.2.1 b hb
  have l1 := ov.2.2.2.1 (R.1 2 a) oaa.1
  have l2 := ov.2.2.2.1 (R.1 2 b) oab.1
  have w1 := (hv.2.1 (R.1 2 a) oaa.1).1
  have w2 := (hv.2.1 (R.1 2 b) oab.1).1
  have pl := pOf_lt V R.1 R.2.1 0 a
  have tl := thA_lt (V := V) (A := R.1) (w := 0) h8
  have e4 : mm.1 1089 4 = nI R.2.1.length := hr.2.2.1.1
  refine lpa (0 : Int32) (fun k => nI (cnt (tcb R.2.1 a b) k)) R.2.1.length rfl (fun k hk => ?_) ?_
  · have hk2 := hr.2.2.1.2 k hk
    have hok := oa.2.2.2.2 k hk
    have gk := gd_ok (show k < 12 by omega) (by decide)
    unfold f_X12_asks_s5 f_X12_asks_j61 f_X12_asks_j66
    show (if mm.1 1089 4 ≤ nI k then _ else _) = _
    rw [e4, if_neg (by rw [sN_le (by omega) (by omega)]; omega), if_neg gk, if_neg gk, if_neg gk, if_neg gk, cl_ok (by omega), hk2.1, hk2.2.1, sN_a1, sN_a1, show (nI (cnt (tcb R.2.1 a b) k) + 0 : Int32) = nI (cnt (tcb R.2.1 a b) k) by rw [show (0 : Int32) = nI 0 from rfl, sN_ad]; rfl]
    have e : cnt (tcb R.2.1 a b) (k + 1) = if tcb R.2.1 a b k then cnt (tcb R.2.1 a b) k + 1 else cnt (tcb R.2.1 a b) k := rfl
    rw [e]
    unfold tcb
    by_cases c1 : (rp R.2.1 k).1 = a
    · rw [if_pos (show nI (rp R.2.1 k).1 = nI a by rw [c1]), if_pos (decide_eq_true (Or.inl c1))]
    · rw [if_neg (show ¬ nI (rp R.2.1 k).1 = nI a by rw [sN_eq (by omega) (by omega)]; exact c1)]
      by_cases c2 : (rp R.2.1 k).2.1 = a
      · rw [if_pos (show nI (rp R.2.1 k).2.1 = nI a by rw [c2]), if_pos (decide_eq_true (Or.inr (Or.inl c2)))]
      · rw [if_neg (show ¬ nI (rp R.2.1 k).2.1 = nI a by rw [sN_eq (by omega) (by omega)]; exact c2)]
        by_cases c3 : (rp R.2.1 k).1 = b
        · rw [if_pos (show nI (rp R.2.1 k).1 = nI b by rw [c3]), if_pos (decide_eq_true (Or.inr (Or.inr (Or.inl c3))))]
        · rw [if_neg (show ¬ nI (rp R.2.1 k).1 = nI b by rw [sN_eq (by omega) (by omega)]; exact c3)]
          by_cases c4 : (rp R.2.1 k).2.1 = b
          · rw [if_pos (show nI (rp R.2.1 k).2.1 = nI b by rw [c4]), if_pos (decide_eq_true (Or.inr (Or.inr (Or.inr c4))))]
          · rw [if_neg (show ¬ nI (rp R.2.1 k).2.1 = nI b by rw [sN_eq (by omega) (by omega)]; exact c4), if_neg (by rw [decide_eq_false (by omega)]; decide)]
  · unfold f_X12_asks_s5
    show (if mm.1 1089 4 ≤ nI R.2.1.length then _ else _) = _
    rw [e4, if_pos (by rw [sN_le (by omega) (by omega)]; omega)]
theorem asks_1 {mm : Mm} {V : Dat} {R : Rf} (hv : RvF mm V) (ov : RvOk V) (hr : RaF mm V R.1 R.2.1 R.2.2) (oa : RaOk V R.1 R.2.1) {a b : Nat} (ha : a < V 1 2 ∧ R.1 4 a = 0) (hb : b < V 1 2) : ∀ (m : Mm) (z : Int64), m.1 = mm.1 → ∃ m1, f_X12_asks_j296 m z 10 = some m1 ∧ m1 = wL (wL m 1127 10 z) 1127 11 (nI (pop (thA V R.1 0) 12)).toInt64 := by
  have h8 := ov.2.2.1
  have h6 := ov.2.1
  have h12 := oa.2.1
  have h99 := ov.1
  have ga := gd_ok (show a < 8 by omega) (by decide)
  have gb := gd_ok (show b < 8 by omega) (by decide)
  have va := hr.2.2.2.2 a ha.1
  have vb := hr.2.2.2.2 b hb
  have ra := hv.2.2.1 a ha.1
  have rb := hv.2.2.1 b hb
  have oaa := oa.2.2.2.1 a ha.1
  have oab := oa.2.2.2.1 b hb
  have l1 := ov.2.2.2.1 (R.1 2 a) oaa.1
  have l2 := ov.2.2.2.1 (R.1 2 b) oab.1
  have w1 := (hv.2.1 (R.1 2 a) oaa.1).1
  have w2 := (hv.2.1 (R.1 2 b) oab.1).1
  have pl := pOf_lt V R.1 R.2.1 0 a
  have tl := thA_lt (V := V) (A := R.1) (w := 0) h8
  have loop := asks_l hv ov hr oa ha hb
  intro m z hm
  unfold f_X12_asks_j296
  have hv' : RvF (wL m 1127 10 z) V := by
    unfold RvF
    rw [wL_one, hm]
    exact hv
  have hr' : RaF (wL m 1127 10 z) V R.1 R.2.1 R.2.2 := by
    unfold RaF
    rw [wL_one, hm]
    exact hr
  rw [if_neg (by decide), show (10 : Int32).toNatClampNeg = 10 from rfl, vl_s, afloat_f hv' ov hr' oa, bi1_s, bits_ok (by omega), bi1_s, pop16 tl, vl_s]
  exact ⟨_, rfl, rfl⟩
theorem asks_2 {mm : Mm} {V : Dat} {R : Rf} (hv : RvF mm V) (ov : RvOk V) (hr : RaF mm V R.1 R.2.1 R.2.2) (oa : RaOk V R.1 R.2.1) {a b : Nat} (ha : a < V 1 2 ∧ R.1 4 a = 0) (hb : b < V 1 2) : ∀ (m : Mm) (z : Int64) (y3 : Int32), m.1 = mm.1 → ∃ m1, f_X12_asks_j199 m (nI a) (nI b) y3 z 6 = some m1 ∧ m1 = wL (wL (wL (wL (wL (wL m 1127 6 z) 1127 7 y3.toInt64) 1127 8 R.2.2.toInt64) 1127 9 (nI (R.1 0 1)).toInt64) 1127 10 (nI (if V 2 (R.1 2 b) < V 2 (R.1 2 a) then V 2 (R.1 2 b) else V 2 (R.1 2 a))).toInt64) 1127 11 (nI (pop (thA V R.1 0) 12)).toInt64 := by
  have h8 := ov.2.2.1
  have h6 := ov.2.1
  have h12 := oa.2.1
  have h99 := ov.1
  have ga := gd_ok (show a < 8 by omega) (by decide)
  have gb := gd_ok (show b < 8 by omega) (by decide)
  have va := hr.2.2.2.2 a ha.1
  have vb := hr.2.2.2.2 b hb
  have ra := hv.2.2.1 a ha.1
  have rb := hv.2.2.1 b hb
  have oaa := oa.2.2.2.1 a ha.1
  have oab := oa.2.2.2.1 b hb
  have l1 := ov.2.2.2.1 (R.1 2 a) oaa.1
  have l2 := ov.2.2.2.1 (R.1 2 b) oab.1
  have w1 := (hv.2.1 (R.1 2 a) oaa.1).1
  have w2 := (hv.2.1 (R.1 2 b) oab.1).1
  have pl := pOf_lt V R.1 R.2.1 0 a
  have tl := thA_lt (V := V) (A := R.1) (w := 0) h8
  have loop := asks_l hv ov hr oa ha hb
  have J296 := asks_1 hv ov hr oa ha hb
  intro m z y3 hm
  unfold f_X12_asks_j199
  rw [if_neg (by decide), show (6 : Int32).toNatClampNeg = 6 from rfl, vl_s, vl_s, vl_s, vl_s, if_neg ga, wL_one, wL_one, wL_one, wL_one, hm, cl_ok (show a < 100000 by omega), cl_ok (show b < 100000 by omega), va.1, vb.1, hr.2.1, hr.1, if_neg (gd_ok (show R.1 2 a < 6 by omega) (by decide)), if_neg (by have := gb; rw [cl_ok (by omega)] at this; exact this), if_neg (gd_ok (show R.1 2 b < 6 by omega) (by decide)), cl_ok (show R.1 2 a < 100000 by omega), cl_ok (show R.1 2 b < 100000 by omega), w1, w2]
  have gb' := gb
  rw [cl_ok (by omega)] at gb'
  have ga' := ga
  rw [cl_ok (by omega)] at ga'
  have g2 := gd_ok (show R.1 2 b < 6 by omega) (by decide)
  rw [cl_ok (by omega)] at g2
  have g1 := gd_ok (show R.1 2 a < 6 by omega) (by decide)
  rw [cl_ok (by omega)] at g1
  by_cases c : nI (V 2 (R.1 2 b)) ≤ nI (V 2 (R.1 2 a))
  · rw [if_pos c, if_neg gb', if_neg g2]
    obtain ⟨m1, e1, e2⟩ := J296 (wL (wL (wL (wL m 1127 6 z) 1127 7 y3.toInt64) 1127 8 R.2.2.toInt64) 1127 9 (nI (R.1 0 1)).toInt64) (nI (V 2 (R.1 2 b))).toInt64 hm
    refine ⟨m1, e1, ?_⟩
    rw [e2]
    rw [sN_le (by omega) (by omega)] at c
    by_cases d : V 2 (R.1 2 b) < V 2 (R.1 2 a)
    · rw [if_pos d]
    · rw [if_neg d, show V 2 (R.1 2 b) = V 2 (R.1 2 a) by omega]
  · rw [if_neg c, if_neg ga', if_neg g1]
    obtain ⟨m1, e1, e2⟩ := J296 (wL (wL (wL (wL m 1127 6 z) 1127 7 y3.toInt64) 1127 8 R.2.2.toInt64) 1127 9 (nI (R.1 0 1)).toInt64) (nI (V 2 (R.1 2 a))).toInt64 hm
    refine ⟨m1, e1, ?_⟩
    rw [e2]
    rw [sN_le (by omega) (by omega)] at c
    rw [if_neg (by omega)]
theorem asks_3 {mm : Mm} {V : Dat} {R : Rf} (hv : RvF mm V) (ov : RvOk V) (hr : RaF mm V R.1 R.2.1 R.2.2) (oa : RaOk V R.1 R.2.1) {a b : Nat} (ha : a < V 1 2 ∧ R.1 4 a = 0) (hb : b < V 1 2) : ∀ (m : Mm) (z : Int64) (y3 : Int32), m.1 = mm.1 → ∃ m1, f_X12_asks_j175 m (nI a) (nI b) y3 z 5 = some m1 ∧ m1 = wL (wL (wL (wL (wL (wL (wL m 1127 5 z) 1127 6 (if (pOf V R.1 R.2.1 0 a).testBit b = true then 0 else 1)) 1127 7 y3.toInt64) 1127 8 R.2.2.toInt64) 1127 9 (nI (R.1 0 1)).toInt64) 1127 10 (nI (if V 2 (R.1 2 b) < V 2 (R.1 2 a) then V 2 (R.1 2 b) else V 2 (R.1 2 a))).toInt64) 1127 11 (nI (pop (thA V R.1 0) 12)).toInt64 := by
  have h8 := ov.2.2.1
  have h6 := ov.2.1
  have h12 := oa.2.1
  have h99 := ov.1
  have ga := gd_ok (show a < 8 by omega) (by decide)
  have gb := gd_ok (show b < 8 by omega) (by decide)
  have va := hr.2.2.2.2 a ha.1
  have vb := hr.2.2.2.2 b hb
  have ra := hv.2.2.1 a ha.1
  have rb := hv.2.2.1 b hb
  have oaa := oa.2.2.2.1 a ha.1
  have oab := oa.2.2.2.1 b hb
  have l1 := ov.2.2.2.1 (R.1 2 a) oaa.1
  have l2 := ov.2.2.2.1 (R.1 2 b) oab.1
  have w1 := (hv.2.1 (R.1 2 a) oaa.1).1
  have w2 := (hv.2.1 (R.1 2 b) oab.1).1
  have pl := pOf_lt V R.1 R.2.1 0 a
  have tl := thA_lt (V := V) (A := R.1) (w := 0) h8
  have loop := asks_l hv ov hr oa ha hb
  have J296 := asks_1 hv ov hr oa ha hb
  have J199 := asks_2 hv ov hr oa ha hb
  intro m z y3 hm
  unfold f_X12_asks_j175
  have hv' : RvF (wL m 1127 5 z) V := by
    unfold RvF
    rw [wL_one, hm]
    exact hv
  have hr' : RaF (wL m 1127 5 z) V R.1 R.2.1 R.2.2 := by
    unfold RaF
    rw [wL_one, hm]
    exact hr
  rw [if_neg (by decide), show (5 : Int32).toNatClampNeg = 5 from rfl, vl_s, pieceOf_f hv' ov hr' oa ha, bi1_s, has_ok (by omega) (by omega)]
  by_cases c : (pOf V R.1 R.2.1 0 a).testBit b = true
  · rw [if_pos c, if_neg (by decide), if_pos c]
    exact J199 (wL m 1127 5 z) 0 y3 hm
  · rw [if_neg c, if_pos rfl, if_neg c]
    exact J199 (wL m 1127 5 z) 1 y3 hm
theorem asks_f {mm : Mm} {V : Dat} {R : Rf} (hv : RvF mm V) (ov : RvOk V) (hr : RaF mm V R.1 R.2.1 R.2.2) (oa : RaOk V R.1 R.2.1) {a b : Nat} (ha : a < V 1 2 ∧ R.1 4 a = 0) (hb : b < V 1 2) : ∃ m1, f_X12_asks mm (nI a) (nI b) = some m1 ∧ m1.1 = mm.1 ∧ ∀ w, w < 12 → m1.2 1127 w = Wrd V R a b w := by
  have h8 := ov.2.2.1
  have h6 := ov.2.1
  have h12 := oa.2.1
  have h99 := ov.1
  have ga := gd_ok (show a < 8 by omega) (by decide)
  have gb := gd_ok (show b < 8 by omega) (by decide)
  have va := hr.2.2.2.2 a ha.1
  have vb := hr.2.2.2.2 b hb
  have ra := hv.2.2.1 a ha.1
  have rb := hv.2.2.1 b hb
  have oaa := oa.2.2.2.1 a ha.1
  have oab := oa.2.2.2.1 b hb
  have l1 := ov.2.2.2.1 (R.1 2 a) oaa.1
  have l2 := ov.2.2.2.1 (R.1 2 b) oab.1
  have w1 := (hv.2.1 (R.1 2 a) oaa.1).1
  have w2 := (hv.2.1 (R.1 2 b) oab.1).1
  have pl := pOf_lt V R.1 R.2.1 0 a
  have tl := thA_lt (V := V) (A := R.1) (w := 0) h8
  have loop := asks_l hv ov hr oa ha hb
  have J296 := asks_1 hv ov hr oa ha hb
  have J199 := asks_2 hv ov hr oa ha hb
  have J175 := asks_3 hv ov hr oa ha hb
  unfold f_X12_asks
  rw [loop, bi1_s, vl_s, vl_s, if_neg ga, if_neg gb, wL_one, wL_one, cl_ok (show a < 100000 by omega), cl_ok (show b < 100000 by omega), va.2.1, vb.2.1, vl_s, wL_one, wL_one, wL_one]
  have gb' := gb
  rw [cl_ok (by omega)] at gb'
  have ga' := ga
  rw [cl_ok (by omega)] at ga'
  rw [if_neg ga', if_neg gb', ra.1, rb.1, vl_s, wL_one, wL_one, wL_one, wL_one, if_neg ga', if_neg gb', ra.2, rb.2, vl_s, wL_one, wL_one, wL_one, wL_one, wL_one, if_neg ga', if_neg gb', va.1, vb.1]
  have hfin : ∃ m1, (if nI (R.1 2 a) = nI (R.1 2 b) then f_X12_asks_j175 (wL (wL (wL (wL (wL mm 1127 0 (nI a).toInt64) 1127 1 (nI b).toInt64) 1127 2 (nI (R.1 3 a) + nI (R.1 3 b)).toInt64) 1127 3 (nI (V 4 a) + nI (V 4 b)).toInt64) 1127 4 (nI (V 5 a) + nI (V 5 b)).toInt64) (nI a) (nI b) (nI (cnt (tcb R.2.1 a b) R.2.1.length)) 1 5 else f_X12_asks_j175 (wL (wL (wL (wL (wL mm 1127 0 (nI a).toInt64) 1127 1 (nI b).toInt64) 1127 2 (nI (R.1 3 a) + nI (R.1 3 b)).toInt64) 1127 3 (nI (V 4 a) + nI (V 4 b)).toInt64) 1127 4 (nI (V 5 a) + nI (V 5 b)).toInt64) (nI a) (nI b) (nI (cnt (tcb R.2.1 a b) R.2.1.length)) 0 5) = some m1 ∧ m1 = wL (wL (wL (wL (wL (wL (wL (wL (wL (wL (wL (wL mm 1127 0 (nI a).toInt64) 1127 1 (nI b).toInt64) 1127 2 (nI (R.1 3 a) + nI (R.1 3 b)).toInt64) 1127 3 (nI (V 4 a) + nI (V 4 b)).toInt64) 1127 4 (nI (V 5 a) + nI (V 5 b)).toInt64) 1127 5 (if R.1 2 a = R.1 2 b then 1 else 0)) 1127 6 (if (pOf V R.1 R.2.1 0 a).testBit b = true then 0 else 1)) 1127 7 (nI (cnt (tcb R.2.1 a b) R.2.1.length)).toInt64) 1127 8 R.2.2.toInt64) 1127 9 (nI (R.1 0 1)).toInt64) 1127 10 (nI (if V 2 (R.1 2 b) < V 2 (R.1 2 a) then V 2 (R.1 2 b) else V 2 (R.1 2 a))).toInt64) 1127 11 (nI (pop (thA V R.1 0) 12)).toInt64 := by
    by_cases c : R.1 2 a = R.1 2 b
    · rw [if_pos (show nI (R.1 2 a) = nI (R.1 2 b) by rw [c]), if_pos c]
      exact J175 _ 1 _ rfl
    · rw [if_neg (show ¬ nI (R.1 2 a) = nI (R.1 2 b) by rw [sN_eq (by omega) (by omega)]; exact c), if_neg c]
      exact J175 _ 0 _ rfl
  obtain ⟨m1, e1, e2⟩ := hfin
  refine ⟨m1, e1, by rw [e2]; rfl, fun w hw => ?_⟩
  rw [e2]
  rcases (show w = 0 ∨ w = 1 ∨ w = 2 ∨ w = 3 ∨ w = 4 ∨ w = 5 ∨ w = 6 ∨ w = 7 ∨ w = 8 ∨ w = 9 ∨ w = 10 ∨ w = 11 by omega) with q | q | q | q | q | q | q | q | q | q | q | q <;> subst q <;> simp [wL_get, Wrd]
