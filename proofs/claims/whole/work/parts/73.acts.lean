/-! PHASE 2: the acts -/
def canB (R : Rf) (a b s : Nat) : Prop := ¬ R.2.2 < nI s ∧ R.2.1.length < 12 ∧ ¬ Bnd R.2.1 a b
theorem canBind_f {mm : Mm} {V : Dat} {R : Rf} (hv : RvF mm V) (ov : RvOk V) (hr : RaF mm V R.1 R.2.1 R.2.2) (oa : RaOk V R.1 R.2.1) {a b s : Nat} (ha : a < V 1 2) (hb : b < V 1 2) (hab : ¬ a = b) (hs : 1 ≤ s ∧ s ≤ 9) : f_X12_canBind mm (nI a) (nI b) (nI s) = some (if pb (R.1 4 a = 0 ∧ R.1 4 b = 0 ∧ canB R a b s) then 1 else 0) := by
  have h8 := ov.2.2.1
  have hl := oa.2.1
  have af : ∀ {t : Nat}, t < V 1 2 → (Afl V R.1 (nI t) ↔ R.1 4 t = 0) := fun {t} ht => ⟨fun ⟨u, h1, h2⟩ => by rw [nI_eq_iff (by omega) (by omega)] at h2; rw [h2]; exact h1.2, fun h => ⟨t, ⟨ht, h⟩, rfl⟩⟩
  have hin : f_X12_in (nI s).toInt64 (1 : Int64) (9 : Int64) = 1 := by
    rcases strength_ok (nI s) with ⟨j, _, _, _, _, h⟩ | ⟨h, _⟩
    · exact h
    · exfalso
      unfold f_X11_isStrength at h
      rw [K1] at h
      revert h
      simp (disch := omega) only [↓reduceIte, decide_true, decide_false, Bool.false_eq_true, eq_self, s10, s01, cont_ok, has_ok, b2i0, b2i1, reduceCtorEq, Nat.or_zero, Nat.add_zero, sN_le, sN_lt, sN_eq, sN_lt0, sN_le0, sN_0le, sN_0lt, sN_eq0, sN_cl, sN_ad, sN_a1, K2, K3, K4, K5, K6, K7, K8, K9, K12, K16, K20, false_or, or_false, if_neg, if_pos, vl_s, bi1_s, bi2_s, nx_or, nx_and, nx_sh]
      decide
  unfold f_X12_canBind
  rw [isAfloat_f hv ov hr oa, bi1_s]
  by_cases c1 : R.1 4 a = 0
  · rw [pb_t ((af ha).mpr c1), if_pos rfl, if_neg (by decide), isAfloat_f hv ov hr oa, bi1_s]
    by_cases c2 : R.1 4 b = 0
    · rw [pb_t ((af hb).mpr c2), if_pos rfl, if_neg (by decide), if_neg (by rw [sN_eq (by omega) (by omega)]; exact hab), hin, if_neg (by decide), hr.2.1]
      by_cases c3 : R.2.2 < nI s
      · rw [if_pos c3, pb_f (fun z => z.2.2.1 c3)]
        rfl
      · rw [if_neg c3, hr.2.2.1.1]
        by_cases c4 : R.2.1.length < 12
        · rw [if_neg (by rw [K12, sN_le (by decide) (by omega)]; omega), isBound_f hr ov oa (by omega) (by omega) hab, bi1_s]
          by_cases c5 : Bnd R.2.1 a b
          · rw [pb_t c5, if_pos rfl, if_neg (by decide), pb_f (fun z => z.2.2.2.2 c5)]
            rfl
          · rw [pb_f c5, if_pos (by decide), pb_t ⟨c1, c2, c3, c4, c5⟩]
            rfl
        · rw [if_pos (by rw [K12, sN_le (by decide) (by omega)]; omega), pb_f (fun z => c4 z.2.2.2.1)]
          rfl
    · rw [pb_f (fun z => c2 ((af hb).mp z)), if_pos (by decide), pb_f (fun z => c2 z.2.1)]
      rfl
  · rw [pb_f (fun z => c1 ((af ha).mp z)), if_pos (by decide), pb_f (fun z => c1 z.1)]
    rfl
theorem StF_raM {mm : Mm} {V : Dat} {R : Rf} {na : Nat} {P : Nat → Rf} {O : Dat} {x : Int32} (h : StF (fS mm) V R na P O x) : raM mm V R := h.2.2.2.2.1
theorem raM_gR {mm : Mm} {V : Dat} {R : Rf} (h : raM mm V R) : raF (gR (fS mm)) V R := h
theorem StF_frM {mm m1 : Mm} {V : Dat} {R R' : Rf} {na : Nat} {P : Nat → Rf} {O : Dat} {x : Int32} (h : StF (fS mm) V R na P O x) (f : frM mm m1) (hr : raM m1 V R') : StF (fS m1) V R' na P O x := StF_raft h (fun i i1 i2 i3 _ i4 i5 i6 i7 i8 i9 => f.1 i i1 i2 i3 i4 i5 i6 i7 i8 i9) (f.2.1 55 (by decide) (by decide)) f.2.2 (raM_gR hr)
/-- an act: the class remembers and changes its raft, the reference likewise -/
theorem act_ok {mm : Mm} {ol : Nat} {V : Dat} {R : Rf} {na : Nat} {P : Nat → Rf} {O : Dat} {x : Int32} (hInv : Inv mm) (hC : StC (cS mm 26) ol V R na P O x) (hF : StF (fS mm) V R na P O x) (ok : StOk ol V R na P O x) (h0 : ¬ V 1 0 = 0) : ∃ m1, f_X9_remember mm = some m1 ∧ raC (rwC m1 33) V R ∧ RvC m1 27 V ∧ FC mm m1 ∧ ∀ (m2 : Mm) (R' : Rf), raC (rwC m2 33) V R' → (∀ i, ¬ (33 ≤ i ∧ i < 42) → ¬ i = 230 → ¬ i = 231 → ¬ i = 251 → m2.1 i = m1.1 i) → RaOk V R'.1 R'.2.1 → ∃ m3, f_X12_keepsAct m2 = some m3 ∧ raM m3 V R ∧ RvF m3 V ∧ ∀ m4, raM m4 V R' → (∀ i, ¬ i = 1088 → ¬ i = 1089 → ¬ i = 1092 → ¬ i = 1093 → ¬ i = 1095 → ¬ i = 1097 → ¬ i = 1098 → ¬ i = 1099 → ¬ i = 1100 → ¬ i = 1101 → m4.1 i = m3.1 i) → (∀ k, ¬ k = 51 → ¬ k = 52 → m4.1 1088 k = m3.1 1088 k) → (∀ k, ¬ k = 1 → ¬ k = 4 → ¬ k = 6 → m4.1 1089 k = m3.1 1089 k) → Inv m4 := by
  have ov := ok.1.1
  have oa := ok.2.2.2.2.2.2.1
  obtain ⟨m1, e1, s1, f1⟩ := remember_c hC ov oa ok.2.2.1 ok.2.2.2.1
  have r1 : raC (rwC m1 33) V R := by
    have := s1.2.2.2.2.2.1
    rw [cR_rw] at this
    exact this
  refine ⟨m1, e1, r1, StC_rv s1, rem_FC f1, fun m2 R' h1 h2 h3 => ?_⟩
  have s2 : StC (cS m2 26) (remO ol na) V R' (remN na) (remP na P R) O x := StC_fr s1 (fun i i1 i2 i3 => h2 i i3 (by omega) (by omega) (by omega)) h1
  have fc2 : FC mm m2 := (rem_FC f1).tr (fun i i1 i2 => h2 i (by omega) (fun z => i2 (by unfold scC; omega)) (fun z => i2 (by unfold scC; omega)) (fun z => i2 (by unfold scC; omega)))
  have hF2 : StF (fS m2) V R na P O x := StF_cl (fun i hi => fc2 i (by omega) (sc_F hi)) hF
  obtain ⟨m3, e3, s3, f3, g3⟩ := keepsAct_f hF2 ov oa ok.2.2.2.2.2.2.2 ok.2.2.2.1
  refine ⟨m3, e3, StF_raM s3, rvF_RvF s3.1 ok.1, fun m4 k1 k2 k3 k4 => ?_⟩
  have ff : FF m3 m4 := ⟨fun i hi => k2 i (by omega) (by omega) (by omega) (by omega) (by omega) (by omega) (by omega) (by omega) (by omega) (by omega), k3 31 (by decide) (by decide), k3 35 (by decide) (by decide), k3 40 (by decide) (by decide), fun i i1 i2 => k2 i (by omega) (by omega) (by omega) (by omega) (by omega) (by omega) (by omega) (by omega) (by omega) (by omega), fun k _ => by rw [k2 1139 (by decide) (by decide) (by decide) (by decide) (by decide) (by decide) (by decide) (by decide) (by decide) (by decide)], k2 1140 (by decide) (by decide) (by decide) (by decide) (by decide) (by decide) (by decide) (by decide) (by decide) (by decide)⟩
  exact Inv_act hInv fc2 ((keep_FF f3 g3).tr ff) s2 (StF_raft s3 k2 (k3 55 (by decide) (by decide)) k4 (raM_gR k1)) (StOk_rem ok h0 h3)
theorem frM.k2 {m m1 : Mm} (f : frM m m1) : ∀ i, ¬ i = 1088 → ¬ i = 1089 → ¬ i = 1092 → ¬ i = 1093 → ¬ i = 1095 → ¬ i = 1097 → ¬ i = 1098 → ¬ i = 1099 → ¬ i = 1100 → ¬ i = 1101 → m1.1 i = m.1 i := fun i i1 i2 i3 _ i4 i5 i6 i7 i8 i9 => f.1 i i1 i2 i3 i4 i5 i6 i7 i8 i9
theorem sm_bind_ok : sm_bind Inv := by
  intro mm x1 x2 x3 hInv
  obtain ⟨ol, V, R, na, P, O, xx, hC, hF, ok⟩ := SimS_St hInv.2.2.1
  have hv := StC_rv hC
  have hr := StC_ra hC
  have hvF := rvF_RvF hF.1 ok.1
  have hrF := StF_ra hF
  have ov := ok.1.1
  have oa := ok.2.2.2.2.2.2.1
  have h8 := ov.2.2.1
  have hl := oa.2.1
  have neg : f_X12_canBind mm x1 x2 x3 = some 0 → ∃ r m1 m2, some ((-1 : Int32), mm) = some (r, m1) ∧ f_X12_bind m1 x1 x2 x3 = some (r, m2) ∧ Inv m2 := fun h => ⟨-1, mm, mm, rfl, by unfold f_X12_bind; rw [h, bi1_s, if_pos rfl], hInv⟩
  have cb0 : ¬ Afl V R.1 x1 → f_X12_canBind mm x1 x2 x3 = some 0 := fun h => by
    unfold f_X12_canBind
    rw [isAfloat_f hvF ov hrF oa, pb_f h]
    rfl
  have cb1 : Afl V R.1 x1 → ¬ Afl V R.1 x2 → f_X12_canBind mm x1 x2 x3 = some 0 := fun h h2 => by
    unfold f_X12_canBind
    rw [isAfloat_f hvF ov hrF oa, pb_t h, bi1_s, if_pos rfl, if_neg (by decide), isAfloat_f hvF ov hrF oa, pb_f h2]
    rfl
  have cb2 : Afl V R.1 x1 → Afl V R.1 x2 → x1 = x2 → f_X12_canBind mm x1 x2 x3 = some 0 := fun h h2 e => by
    unfold f_X12_canBind
    rw [isAfloat_f hvF ov hrF oa, pb_t h, bi1_s, if_pos rfl, if_neg (by decide), isAfloat_f hvF ov hrF oa, pb_t h2, bi1_s, if_pos rfl, if_neg (by decide), if_pos e]
  have cb3 : Afl V R.1 x1 → Afl V R.1 x2 → ¬ x1 = x2 → f_X12_in x3.toInt64 (1 : Int64) (9 : Int64) = 0 → f_X12_canBind mm x1 x2 x3 = some 0 := fun h h2 e hi => by
    unfold f_X12_canBind
    rw [isAfloat_f hvF ov hrF oa, pb_t h, bi1_s, if_pos rfl, if_neg (by decide), isAfloat_f hvF ov hrF oa, pb_t h2, bi1_s, if_pos rfl, if_neg (by decide), if_neg e, if_pos hi]
  unfold f_X11_bind
  rw [isAfloat_c hv ov hr oa, bi1_s]
  by_cases a1 : Afl V R.1 x1
  · rw [pb_t a1, if_pos rfl, if_neg (by decide), isAfloat_c hv ov hr oa, bi1_s]
    by_cases a2 : Afl V R.1 x2
    · rw [pb_t a2, if_pos rfl, if_neg (by decide)]
      by_cases e : x1 = x2
      · rw [if_pos e]
        exact neg (cb2 a1 a2 e)
      · rw [if_neg e]
        rcases strength_ok x3 with ⟨s, s1, s2, rfl, s3, s4⟩ | ⟨s3, s4⟩
        · obtain ⟨t1, ht1, rfl⟩ := a1
          obtain ⟨t2, ht2, rfl⟩ := a2
          have hab : ¬ t1 = t2 := fun z => e (by rw [z])
          have cb := canBind_f hvF ov hrF oa ht1.1 ht2.1 hab ⟨s1, s2⟩
          rw [s3, if_neg (by decide), areBound_c hr ov oa (by omega) (by omega), bi1_s]
          by_cases b1 : Bnd R.2.1 t1 t2
          · rw [pb_t b1, if_pos rfl, if_neg (by decide)]
            exact neg (by rw [cb, pb_f (fun z => z.2.2.2.2 b1)]; rfl)
          · rw [pb_f b1, if_pos (by decide)]
            have e3 : mm.1 33 3 = nI R.2.1.length := hr.2.2.1.1
            have e2 : mm.1 33 2 = R.2.2 := hr.2.1
            by_cases b2 : R.2.1.length < 12
            · by_cases b3 : R.2.2 < nI s
              · rw [show f_X4_canSpare mm 33 27 (nI s) = 0 from by unfold f_X4_canSpare; rw [e3, e2, if_neg (by rw [K12, sN_le (by decide) (by omega)]; omega), if_pos b3], if_pos rfl]
                exact neg (by rw [cb, pb_f (fun z => z.2.2.1 b3)]; rfl)
              · rw [show f_X4_canSpare mm 33 27 (nI s) = 1 from by unfold f_X4_canSpare; rw [e3, e2, if_neg (by rw [K12, sN_le (by decide) (by omega)]; omega), if_neg b3], if_neg (by decide)]
                have h0 : ¬ V 1 0 = 0 := fun z => by have := (ok.1.2.2.1 z).2.1; omega
                obtain ⟨m1, q1, q2, q3, q4, q5⟩ := act_ok hInv hC hF ok h0
                obtain ⟨m2, w1, w2, w3⟩ := spend_c (v := 27) q2 b2 (a := t1) (b := t2) (s := s) (by omega) (by omega)
                obtain ⟨m3, u1, u2, u3, u4⟩ := q5 m2 _ w2 (fun i i1 _ _ _ => w3 i i1) (tieR_ok oa b2 ht1 ht2 hab ⟨s1, s2⟩)
                obtain ⟨m4, v1, v2, v3⟩ := binds_f u2 b2 (a := t1) (b := t2) (s := s) (by omega) (by omega) hab
                refine ⟨nI R.2.1.length, m2, m4, ?_, ?_, u4 m4 v2 v3.k2 v3.2.1 v3.2.2⟩
                · have e5 : m2.1 33 3 = nI (R.2.1.length + 1) := by
                    have : m2.1 33 3 = nI (tieR R t1 t2 s).2.1.length := w2.1.2.2.1.1
                    rw [this]
                    show nI (R.2.1 ++ [_]).length = _
                    rw [List.length_append]
                    rfl
                  rw [q1, bi1_s, w1, bi1_s, e5, nI_s1]
                · have hf2 : ∀ i, 1088 ≤ i → m2.1 i = mm.1 i := fun i hi => by rw [w3 i (by omega), q4 i (by omega) (sc_F hi)]
                  have hF2 := StF_cl hf2 hF
                  unfold f_X12_bind
                  rw [canBind_f (rvF_RvF hF2.1 ok.1) ov (StF_ra hF2) oa ht1.1 ht2.1 hab ⟨s1, s2⟩, pb_t ⟨ht1.2, ht2.2, b3, b2, b1⟩, bi1_s, if_pos rfl, if_neg (by decide), u1, bi1_s, v1, bi2_s]
            · rw [show f_X4_canSpare mm 33 27 (nI s) = 0 from by unfold f_X4_canSpare; rw [e3, if_pos (by rw [K12, sN_le (by decide) (by omega)]; omega)], if_pos rfl]
              exact neg (by rw [cb, pb_f (fun z => b2 z.2.2.2.1)]; rfl)
        · rw [s3, if_pos rfl]
          exact neg (cb3 a1 a2 e s4)
    · rw [pb_f a2, if_pos (by decide)]
      exact neg (cb1 a1 a2)
  · rw [pb_f a1, if_pos (by decide)]
    exact neg (cb0 a1)
theorem kp_split (g : Nat → Bool) (L : Rop) (j : Nat) : ∀ n, kp g L 0 (j + n) = kp g L 0 j ++ kp g L j n
  | 0 => (List.append_nil _).symm
  | n + 1 => by
    rw [← Nat.add_assoc, kp_su, kp_split g L j n, kp_su, List.append_assoc, Nat.zero_add]
theorem one_tb {k j : Nat} : (2 ^ k).testBit j = decide (k = j) := Nat.testBit_two_pow
theorem kp_one {L : Rop} {k : Nat} (hk : k < L.length) : L = kp ffb L 0 k ++ rp L k :: kp ffb L (k + 1) (L.length - (k + 1)) ∧ kp (2 ^ k).testBit L 0 L.length = kp ffb L 0 k ++ kp ffb L (k + 1) (L.length - (k + 1)) := by
  have e : L.length = k + 1 + (L.length - (k + 1)) := by omega
  constructor
  · rw [← (kp_step (g := ffb) hk).1, ← kp_split, ← e, kp_ff]
  · conv => lhs; rw [e]
    rw [kp_split, kp_su, Nat.zero_add, one_tb, decide_eq_true rfl, if_pos rfl, List.append_nil]
    congr 1
    · exact kp_ext (fun j _ h => by rw [one_tb, decide_eq_false (by omega)]; rfl)
    · exact kp_ext (fun j h1 _ => by rw [one_tb, decide_eq_false (by omega)]; rfl)
theorem stp_one {L : Rop} {k : Nat} : ∀ n, stp (2 ^ k).testBit L n = if k < n then nI (rp L k).2.2 else 0
  | 0 => by rw [if_neg (by omega)]; rfl
  | n + 1 => by
    show stp (2 ^ k).testBit L n + (if (2 ^ k).testBit n then nI (rp L n).2.2 else 0) = _
    rw [stp_one n, one_tb]
    by_cases c : k < n
    · rw [if_pos c, decide_eq_false (by omega), if_neg (by decide), if_pos (by omega), Int32.add_zero]
    · rw [if_neg c]
      by_cases d : k = n
      · rw [decide_eq_true d, if_pos rfl, if_pos (by omega), d, Int32.zero_add]
      · rw [decide_eq_false d, if_neg (by decide), if_neg (by omega), Int32.add_zero]
theorem sm_cut_ok : sm_cut Inv := by
  intro mm x hInv
  obtain ⟨ol, V, R, na, P, O, xx, hC, hF, ok⟩ := SimS_St hInv.2.2.1
  have hv := StC_rv hC
  have hr := StC_ra hC
  have hvF := rvF_RvF hF.1 ok.1
  have hrF := StF_ra hF
  have ov := ok.1.1
  have oa := ok.2.2.2.2.2.2.1
  have h8 := ov.2.2.1
  have hl := oa.2.1
  have e3 : mm.1 33 3 = nI R.2.1.length := hr.2.2.1.1
  have neg : (x < 0 ∨ nI R.2.1.length ≤ x) → ∃ r m1 m2, some ((-1 : Int32), mm) = some (r, m1) ∧ f_X12_cut m1 x = some (r, m2) ∧ Inv m2 := fun h => ⟨-1, mm, mm, rfl, by unfold f_X12_cut; rw [isRope_ok hrF.2.2.1.1 (by omega), if_pos h, bi1_s, if_pos rfl], hInv⟩
  unfold f_X11_cut
  rw [e3]
  rcases i_cases x R.2.1.length (by omega) with hx | hx | ⟨k, hk, rfl⟩
  · rw [if_pos hx]
    exact neg (Or.inl hx)
  · rw [if_neg (nlt_of hx)]
    by_cases h0 : x < 0
    · rw [if_pos h0]; exact neg (Or.inl h0)
    · rw [if_neg h0]; exact neg (Or.inr hx)
  · have hh := oa.2.2.2.2 k hk
    have h0 : ¬ V 1 0 = 0 := fun z => by have := (ok.1.2.2.1 z).2.1; omega
    obtain ⟨m1, q1, q2, q3, q4, q5⟩ := act_ok hInv hC hF ok h0
    have hp : 2 ^ k < 2 ^ 31 := Nat.pow_lt_pow_right (by decide) (by omega)
    obtain ⟨m2, w1, w2, w3, w4⟩ := untie_c (v := 27) (show RaC m1 33 V R.1 R.2.1 R.2.2 from q2.1) hl (g := 2 ^ k) hp
    rw [stp_one, if_pos hk] at w2
    obtain ⟨R', hR'⟩ : ∃ R' : Rf, R' = (R.1, kp (2 ^ k).testBit R.2.1 0 R.2.1.length, R.2.2 + nI (rp R.2.1 k).2.2) := ⟨_, rfl⟩
    have w2' : raC (rwC m2 33) V R' := by
      rw [hR']
      exact ⟨w2, fun t ht h2 => by
        show m2.1 38 t = _
        rw [w3 38 (by decide) (by decide) (by decide) (by decide)]
        exact q2.2 t ht h2⟩
    have okR : RaOk V R'.1 R'.2.1 := by rw [hR']; exact kp_ok oa _
    obtain ⟨m3, u1, u2, u3, u4⟩ := q5 m2 R' w2' (fun i i1 _ _ _ => w3 i (by omega) (by omega) (by omega) (by omega)) okR
    obtain ⟨m4, hm4⟩ : ∃ m4, m4 = wI m3 1089 1 (R.2.2 + nI (rp R.2.1 k).2.2) := ⟨_, rfl⟩
    have kk := kp_one hk
    have rp3 : RpOk (m4.1 1089 4) (m4.1 1099) (m4.1 1100) (m4.1 1101) (kp ffb R.2.1 0 k ++ rp R.2.1 k :: kp ffb R.2.1 (k + 1) (R.2.1.length - (k + 1))) := by
      rw [← kk.1, hm4, wI_pl (by decide), wI_ne (by decide), wI_ne (by decide), wI_ne (by decide)]
      exact u2.1.2.2.1
    obtain ⟨m5, v1, v2, v3⟩ := ropeGoes_f rp3 (by rw [← kk.1]; exact hl)
    rw [kp_ff_len] at v1
    rw [← kk.2] at v2
    have g5 : ∀ i, ¬ i = 1089 → ¬ i = 1099 → ¬ i = 1100 → ¬ i = 1101 → m5.1 i = m3.1 i := fun i i1 i2 i3 i4 => by rw [v3.1 i i1 i2 i3 i4, hm4, wI_ne i1]
    have g51 : m5.1 1089 1 = R.2.2 + nI (rp R.2.1 k).2.2 := by rw [v3.2 1 (by decide), hm4, wI_at]
    have g5k : ∀ j, ¬ j = 1 → ¬ j = 4 → m5.1 1089 j = m3.1 1089 j := fun j j1 j2 => by rw [v3.2 j j2, hm4, wI_pl j1]
    refine ⟨R.2.2 + nI (rp R.2.1 k).2.2, m2, m5, ?_, ?_, u4 m5 ?_ (fun i i1 i2 i3 i4 i5 i6 i7 i8 i9 i10 => g5 i i2 i8 i9 i10) (fun j _ _ => by rw [g5 1088 (by decide) (by decide) (by decide) (by decide)]) (fun j j1 j2 _ => g5k j j1 j2)⟩
    · simp (disch := omega) only [↓reduceIte, decide_true, decide_false, Bool.false_eq_true, eq_self, s10, s01, cont_ok, has_ok, b2i0, b2i1, reduceCtorEq, Nat.or_zero, Nat.add_zero, sN_le, sN_lt, sN_eq, sN_lt0, sN_le0, sN_0le, sN_0lt, sN_eq0, sN_cl, sN_ad, sN_a1, K2, K3, K4, K5, K6, K7, K8, K9, K12, K16, K20, false_or, or_false, if_neg, if_pos, vl_s, bi1_s, bi2_s, nx_or, nx_and, nx_sh]
      rw [q1, bi1_s, w1, bi1_s, show m2.1 33 2 = R.2.2 + nI (rp R.2.1 k).2.2 from w2.2.1]
    · have hf2 : ∀ i, 1088 ≤ i → m2.1 i = mm.1 i := fun i hi => by rw [w3 i (by omega) (by omega) (by omega) (by omega), q4 i (by omega) (sc_F hi)]
      have hF2 := StF_cl hf2 hF
      unfold f_X12_cut
      rw [isRope_ok (StF_ra hF2).2.2.1.1 (by omega), if_neg (fun z => ni_not (by omega) z k hk rfl), bi1_s, if_neg (by decide), u1, bi1_s, if_neg (gd_ok (by omega) (by decide)), cl_ok (by omega), vl_s, u2.1.2.1, (u2.1.2.2.1.2 k hk).2.2, ← hm4, v1, bi1_s, g51]
    · rw [hR']
      refine ⟨⟨?_, g51, v2, fun o ho => ?_, fun t ht => ?_⟩, fun t ht => ?_⟩
      · rw [g5k 6 (by decide) (by decide)]; exact u2.1.1
      · rw [g5 _ (by decide) (by decide) (by decide) (by decide)]; exact u2.1.2.2.2.1 o ho
      · rw [g5 _ (by decide) (by decide) (by decide) (by decide), g5 _ (by decide) (by decide) (by decide) (by decide), g5 _ (by decide) (by decide) (by decide) (by decide)]; exact u2.1.2.2.2.2 t ht
      · rw [g5 _ (by decide) (by decide) (by decide) (by decide)]; exact u2.2 t ht
theorem sm_saw_ok : sm_saw Inv := by
  intro mm x hInv
  obtain ⟨ol, V, R, na, P, O, xx, hC, hF, ok⟩ := SimS_St hInv.2.2.1
  have hv := StC_rv hC
  have hr := StC_ra hC
  have hvF := rvF_RvF hF.1 ok.1
  have hrF := StF_ra hF
  have ov := ok.1.1
  have oa := ok.2.2.2.2.2.2.1
  have h8 := ov.2.2.1
  have hl := oa.2.1
  unfold f_X11_saw
  rw [isAfloat_c hv ov hr oa, bi1_s]
  by_cases ha : Afl V R.1 x
  · have ha' := ha
    obtain ⟨t, ht, rfl⟩ := ha
    have h0 : ¬ V 1 0 = 0 := fun z => by have := (ok.1.2.2.1 z).2.1; omega
    obtain ⟨m1, q1, q2, q3, q4, q5⟩ := act_ok hInv hC hF ok h0
    have hp : 2 ^ t < 2 ^ 31 := Nat.pow_lt_pow_right (by decide) (by omega)
    have hb : ∀ k, k < R.2.1.length → (rp R.2.1 k).1 < 8 ∧ (rp R.2.1 k).2.1 < 8 := fun k hk => by
      have := oa.2.2.2.2 k hk
      omega
    have hs12 := bset_lt12 (g := tch (2 ^ t) R.2.1) hl
    have q2' : RaC m1 33 V R.1 R.2.1 R.2.2 := q2.1
    obtain ⟨m2, w1, w2, w3, w4⟩ := lose_c (v := 27) q2' hl (g := bset (tch (2 ^ t) R.2.1) R.2.1.length) (by omega)
    rw [kp_bset] at w2
    obtain ⟨R', hR'⟩ : ∃ R' : Rf, R' = (R.1, kp (tch (2 ^ t) R.2.1) R.2.1 0 R.2.1.length, R.2.2) := ⟨_, rfl⟩
    have w2' : raC (rwC m2 33) V R' := by
      rw [hR']
      exact ⟨w2, fun t ht h2 => by
        show m2.1 38 t = _
        rw [w3 38 (by decide) (by decide) (by decide) (by decide)]
        exact q2.2 t ht h2⟩
    have okR : RaOk V R'.1 R'.2.1 := by rw [hR']; exact kp_ok oa _
    obtain ⟨m3, u1, u2, u3, u4⟩ := q5 m2 R' w2' (fun i i1 _ _ _ => w3 i (by omega) (by omega) (by omega) (by omega)) okR
    obtain ⟨m4, v1, v2, v3⟩ := ropesGoOf_f u2.1 hl hb (s := 2 ^ t) hp false
    rw [if_neg (by decide)] at v1 v2
    rw [pb_t ha', if_pos rfl, if_neg (by decide), q1, bi1_s, nx_sh t (by omega), ropesOf_x q2'.2.2.1 hl hb hp, bi1_s, w1, bi1_s, bitc_bset hl]
    refine ⟨_, m2, m4, rfl, ?_, u4 m4 (by rw [hR']; exact ⟨v2, fun t ht => by rw [v3.1 1098 (by decide) (by decide) (by decide) (by decide)]; exact u2.2 t ht⟩) (fun i i1 i2 i3 i4 i5 i6 i7 i8 i9 i10 => v3.1 i i2 i8 i9 i10) (fun j _ _ => by rw [v3.1 1088 (by decide) (by decide) (by decide) (by decide)]) (fun j j1 j2 _ => v3.2 j j2 j1)⟩
    have hf2 : ∀ i, 1088 ≤ i → m2.1 i = mm.1 i := fun i hi => by rw [w3 i (by omega) (by omega) (by omega) (by omega), q4 i (by omega) (sc_F hi)]
    have hF2 := StF_cl hf2 hF
    unfold f_X12_saw
    rw [isAfloat_f (rvF_RvF hF2.1 ok.1) ov (StF_ra hF2) oa, pb_t ha', bi1_s, if_pos rfl, if_neg (by decide), u1, bi1_s, nx_sh t (by omega), v1, bi2_s]
  · rw [pb_f ha]
    refine ⟨-1, mm, mm, rfl, ?_, hInv⟩
    unfold f_X12_saw
    rw [isAfloat_f hvF ov hrF oa, pb_f ha]
    rfl
theorem sm_push_ok : sm_push Inv := by
  intro mm x y hInv
  obtain ⟨ol, V, R, na, P, O, xx, hC, hF, ok⟩ := SimS_St hInv.2.2.1
  have hv := StC_rv hC
  have hr := StC_ra hC
  have hvF := rvF_RvF hF.1 ok.1
  have hrF := StF_ra hF
  have ov := ok.1.1
  have oa := ok.2.2.2.2.2.2.1
  have h8 := ov.2.2.1
  have h6 := ov.2.1
  have hl := oa.2.1
  unfold f_X11_push
  rw [isAfloat_c hv ov hr oa, bi1_s]
  by_cases ha : Afl V R.1 x
  · have ha' := ha
    obtain ⟨t, ht, rfl⟩ := ha
    have b1 := oa.2.2.2.1 t ht.1
    have e1 : mm.1 27 1 = nI (V 1 1) := hv.1.2.1
    have e35 : mm.1 35 t = nI (R.1 2 t) := (hr.2.2.2.2 t ht.1).1
    rw [pb_t ha', if_pos rfl, if_neg (by decide), e1]
    have neg : (y < 0 ∨ nI (V 1 1) ≤ y) → ∃ r m1 m2, some ((-1 : Int32), mm) = some (r, m1) ∧ f_X12_push m1 (nI t) y = some (r, m2) ∧ Inv m2 := fun h => ⟨-1, mm, mm, rfl, by unfold f_X12_push; rw [isAfloat_f hvF ov hrF oa, pb_t ha', bi1_s, if_pos rfl, if_neg (by decide), isOwner_f hvF.1.2.1 (by omega), if_pos h, bi1_s, if_pos rfl], hInv⟩
    rcases i_cases y (V 1 1) (by omega) with hx | hx | ⟨o, ho, rfl⟩
    · rw [if_pos hx]
      exact neg (Or.inl hx)
    · rw [if_neg (nlt_of hx)]
      by_cases h0 : y < 0
      · rw [if_pos h0]; exact neg (Or.inl h0)
      · rw [if_neg h0]; exact neg (Or.inr hx)
    · have hO : ∀ m : Mm, m.1 1089 2 = nI (V 1 1) → f_X12_isOwner m (nI o) = some 1 := fun m h => by
        rw [isOwner_f h (by omega), if_neg (fun z => ni_not (by omega) z o ho rfl)]
      simp (disch := omega) only [↓reduceIte, decide_true, decide_false, Bool.false_eq_true, eq_self, s10, s01, cont_ok, has_ok, b2i0, b2i1, reduceCtorEq, Nat.or_zero, Nat.add_zero, sN_le, sN_lt, sN_eq, sN_lt0, sN_le0, sN_0le, sN_0lt, sN_eq0, sN_cl, sN_ad, sN_a1, K2, K3, K4, K5, K6, K7, K8, K9, K12, K16, K20, false_or, or_false, if_neg, if_pos, vl_s, bi1_s, bi2_s, nx_or, nx_and, nx_sh, e35]
      by_cases c : R.1 2 t = o
      · refine ⟨-1, mm, mm, by rw [if_pos c], ?_, hInv⟩
        have f35 := (hrF.2.2.2.2 t ht.1).1
        unfold f_X12_push
        rw [isAfloat_f hvF ov hrF oa, pb_t ha', bi1_s, if_pos rfl, if_neg (by decide), hO mm hvF.1.2.1, bi1_s, if_neg (by decide)]
        simp (disch := omega) only [↓reduceIte, decide_true, decide_false, Bool.false_eq_true, eq_self, s10, s01, cont_ok, has_ok, b2i0, b2i1, reduceCtorEq, Nat.or_zero, Nat.add_zero, sN_le, sN_lt, sN_eq, sN_lt0, sN_le0, sN_0le, sN_0lt, sN_eq0, sN_cl, sN_ad, sN_a1, K2, K3, K4, K5, K6, K7, K8, K9, K12, K16, K20, false_or, or_false, if_neg, if_pos, vl_s, bi1_s, bi2_s, nx_or, nx_and, nx_sh, f35, c]
      · rw [if_neg c]
        have h0 : ¬ V 1 0 = 0 := fun z => by have := (ok.1.2.2.1 z).2.1; omega
        obtain ⟨m1, q1, q2, q3, q4, q5⟩ := act_ok hInv hC hF ok h0
        have q2' : RaC m1 33 V R.1 R.2.1 R.2.2 := q2.1
        obtain ⟨R', hR'⟩ : ∃ R' : Rf, R' = (upA R.1 2 (fun u => if u = t then o else R.1 2 u), R.2.1, R.2.2) := ⟨_, rfl⟩
        have w2 : raC (rwC (wI m1 35 t (nI o)) 33) V R' := by
          rw [hR']
          refine ⟨⟨?_, ?_, ?_, fun o ho => ?_, fun u hu => ?_⟩, fun u hu h2 => ?_⟩
          · show (wI m1 35 t (nI o)).1 33 1 = _
            rw [wI_ne (by decide)]; exact q2'.1
          · show (wI m1 35 t (nI o)).1 33 2 = _
            rw [wI_ne (by decide)]; exact q2'.2.1
          · show RpOk ((wI m1 35 t (nI o)).1 33 3) ((wI m1 35 t (nI o)).1 39) ((wI m1 35 t (nI o)).1 40) ((wI m1 35 t (nI o)).1 41) _
            rw [wI_ne (by decide), wI_ne (by decide), wI_ne (by decide), wI_ne (by decide)]; exact q2'.2.2.1
          · show (wI m1 35 t _).1 34 o = _
            rw [wI_ne (by decide)]; exact q2'.2.2.2.1 o ho
          · show (wI m1 35 t (nI o)).1 35 u = nI (if u = t then o else R.1 2 u) ∧ (wI m1 35 t (nI o)).1 36 u = nI (R.1 3 u) ∧ (wI m1 35 t (nI o)).1 37 u = nI (R.1 4 u)
            rw [wI_ne (show 36 ≠ 35 by decide), wI_ne (show 37 ≠ 35 by decide), wI_get]
            refine ⟨?_, (q2'.2.2.2.2 u hu).2.1, (q2'.2.2.2.2 u hu).2.2⟩
            by_cases d : u = t
            · rw [if_pos ⟨rfl, d⟩, if_pos d]
            · rw [if_neg (fun z => d z.2), if_neg d]; exact (q2'.2.2.2.2 u hu).1
          · show (wI m1 35 t (nI o)).1 38 u = _
            rw [wI_ne (by decide)]; exact q2.2 u hu h2
        have okR : RaOk V R'.1 R'.2.1 := by
          rw [hR']
          refine ⟨oa.1, oa.2.1, oa.2.2.1, fun u hu => ?_, oa.2.2.2.2⟩
          have := oa.2.2.2.1 u hu
          refine ⟨?_, this.2.1, this.2.2⟩
          show (if u = t then o else R.1 2 u) < V 1 1
          split
          · exact ho
          · exact this.1
        obtain ⟨m3, u1, u2, u3, u4⟩ := q5 _ R' w2 (fun i i1 _ _ _ => wI_ne (by omega)) okR
        have f35 := (u2.1.2.2.2.2 t ht.1).1
        refine ⟨nI (R.1 2 t), wI m1 35 t (nI o), wI m3 1093 t (nI o), ?_, ?_, u4 _ ?_ (fun i i1 i2 i3 i4 i5 i6 i7 i8 i9 i10 => wI_ne i4) (fun j _ _ => by rw [wI_ne (by decide)]) (fun j _ _ _ => by rw [wI_ne (by decide)])⟩
        · rw [q1, bi1_s]
        · have hf2 : ∀ i, 1088 ≤ i → (wI m1 35 t (nI o)).1 i = mm.1 i := fun i hi => by rw [wI_ne (by omega), q4 i (by omega) (sc_F hi)]
          have hF2 := StF_cl hf2 hF
          have g35 := ((StF_ra hF2).2.2.2.2 t ht.1).1
          unfold f_X12_push
          rw [isAfloat_f (rvF_RvF hF2.1 ok.1) ov (StF_ra hF2) oa, pb_t ha', bi1_s, if_pos rfl, if_neg (by decide), hO _ (rvF_RvF hF2.1 ok.1).1.2.1, bi1_s, if_neg (by decide), u1]
          simp (disch := omega) only [↓reduceIte, decide_true, decide_false, Bool.false_eq_true, eq_self, s10, s01, cont_ok, has_ok, b2i0, b2i1, reduceCtorEq, Nat.or_zero, Nat.add_zero, sN_le, sN_lt, sN_eq, sN_lt0, sN_le0, sN_0le, sN_0lt, sN_eq0, sN_cl, sN_ad, sN_a1, K2, K3, K4, K5, K6, K7, K8, K9, K12, K16, K20, false_or, or_false, if_neg, if_pos, vl_s, bi1_s, bi2_s, nx_or, nx_and, nx_sh, g35, c, f35]
        · rw [hR']
          refine ⟨⟨?_, ?_, ?_, fun o ho => ?_, fun u hu => ?_⟩, fun u hu => ?_⟩
          · rw [wI_ne (by decide)]; exact u2.1.1
          · rw [wI_ne (by decide)]; exact u2.1.2.1
          · rw [wI_ne (by decide), wI_ne (by decide), wI_ne (by decide), wI_ne (by decide)]; exact u2.1.2.2.1
          · rw [wI_ne (by decide)]; exact u2.1.2.2.2.1 o ho
          · show (wI m3 1093 t (nI o)).1 1093 u = nI (if u = t then o else R.1 2 u) ∧ (wI m3 1093 t (nI o)).1 1095 u = nI (R.1 3 u) ∧ (wI m3 1093 t (nI o)).1 1097 u = nI (R.1 4 u)
            rw [wI_ne (show 1095 ≠ 1093 by decide), wI_ne (show 1097 ≠ 1093 by decide), wI_get]
            refine ⟨?_, (u2.1.2.2.2.2 u hu).2.1, (u2.1.2.2.2.2 u hu).2.2⟩
            by_cases d : u = t
            · rw [if_pos ⟨rfl, d⟩, if_pos d]
            · rw [if_neg (fun z => d z.2), if_neg d]; exact (u2.1.2.2.2.2 u hu).1
          · rw [wI_ne (by decide)]; exact u2.2 u hu
  · rw [pb_f ha]
    refine ⟨-1, mm, mm, rfl, ?_, hInv⟩
    unfold f_X12_push
    rw [isAfloat_f hvF ov hrF oa, pb_f ha]
    rfl
