/-! PHASE 2: game -/
def scF (i : Nat) : Prop := (1107 ≤ i ∧ i < 1119) ∨ (1126 ≤ i ∧ i < 1129) ∨ (1130 ≤ i ∧ i < 1139)
theorem Inv_scF {mm m' : Mm} (h : Inv mm) (hf : ∀ i, ¬ scF i → ¬ i = 1088 → m'.1 i = mm.1 i) (h88 : ∀ j, j = 31 ∨ j = 35 ∨ j = 40 ∨ j = 55 → m'.1 1088 j = mm.1 1088 j) : Inv m' := by
  have g : ∀ i, (i < 1088 ∨ (1089 ≤ i ∧ i < 1107) ∨ (1119 ≤ i ∧ i < 1126) ∨ i = 1129 ∨ i = 1139 ∨ i = 1140) → m'.1 i = mm.1 i := fun i hi => hf i (fun z => by unfold scF at z; omega) (by omega)
  exact Inv_fr h (by rw [g 0 (by omega)]) (by rw [g 1 (by omega)]) (g 2 (by omega)) (fun i _ _ => g i (by omega)) (g 227 (by omega)) (fun i _ _ => g i (by omega)) (h88 31 (by omega)) (h88 35 (by omega)) (h88 40 (by omega)) (h88 55 (by omega)) (fun i _ _ => g i (by omega)) (fun i _ _ => g i (by omega)) (g 1129 (by omega)) (g 1139 (by omega)) (g 1140 (by omega))
theorem frst_cg : ∀ (n : Nat) {p q : Nat → Bool}, (∀ i, i < n → p i = q i) → frst p n = frst q n
  | 0, _, _, _ => rfl
  | n + 1, p, q, h => by
    show (if p 0 then 0 else 1 + frst (fun i => p (i + 1)) n) = if q 0 then 0 else 1 + frst (fun i => q (i + 1)) n
    rw [h 0 (by omega), frst_cg n (p := fun i => p (i + 1)) (q := fun i => q (i + 1)) (fun i hi => h (i + 1) (by omega))]
def mvP (V A : Dat) (T : Nat → Option Nat) (s t : Nat) : Bool := s.testBit t && (decide (0 ≤ lif V A (ndf s (2 ^ t)) 0) && (T (ndf s (2 ^ t))).isNone)
def mvF (V A : Dat) (T : Nat → Option Nat) (s : Nat) : Option Nat := if frst (mvP V A T s) 8 < 8 then some (frst (mvP V A T s) 8) else none
def gT (V A : Dat) (pc : Nat) : Nat → Nat → Option Nat
  | 0 => fun _ => none
  | k + 1 => fun s => if s = k ∧ ndf k pc = 0 then mvF V A (gT V A pc k) k else gT V A pc k s
theorem ndf_less {s t : Nat} (h : s.testBit t = true) : ndf s (2 ^ t) < s := by
  have h1 := ndf_le s (2 ^ t)
  by_cases c : ndf s (2 ^ t) = s
  · exfalso
    have : (ndf s (2 ^ t)).testBit t = false := by rw [ndf_tb, one_tb, decide_eq_true rfl, Bool.not_true, Bool.and_false]
    rw [c, h] at this
    exact absurd this (by decide)
  · omega
theorem ndf_same {s t : Nat} (h : s.testBit t = false) : ndf s (2 ^ t) = s := tb_ext (fun u => by
  rw [ndf_tb, one_tb]
  by_cases c : t = u
  · rw [← c, h]; rfl
  · rw [decide_eq_false c, Bool.not_false, Bool.and_true])
theorem ndf_sb {s t pc : Nat} (h : ndf s pc = 0) : ndf (ndf s (2 ^ t)) pc = 0 := ndf_of (fun u hu => by
  rw [ndf_tb, Bool.and_eq_true] at hu
  exact ndf_sub h hu.1)
theorem mvF_cg {V A : Dat} {T U : Nat → Option Nat} {s pc : Nat} (hs : ndf s pc = 0) (h : ∀ u, u < s → ndf u pc = 0 → T u = U u) : mvF V A T s = mvF V A U s := by
  have e : frst (mvP V A T s) 8 = frst (mvP V A U s) 8 := frst_cg 8 (fun t ht => by
    unfold mvP
    by_cases c : s.testBit t = true
    · rw [h _ (ndf_less c) (ndf_sb hs)]
    · rw [Bool.eq_false_iff.mpr c, Bool.false_and, Bool.false_and])
  unfold mvF
  rw [e]
theorem moveFrom_c {mm : Mm} {V A : Dat} {L : Rop} {S : Int32} (hv : RvC mm 27 V) (ov : RvOk V) (hr : RaC mm 33 V A L S) (oa : RaOk V A L) {T : Nat → Option Nat} {s pc : Nat} (hs : s < 256) (hsp : ndf s pc = 0) (hT : ∀ u, u < s → ndf u pc = 0 → mm.1 233 u = encO (-1) (T u) ∧ ∀ b, T u = some b → b < 8) : f_X3_moveFrom mm (nI s) = some (encO (-1) (mvF V A T s)) := by
  obtain ⟨k1, k2, k3⟩ := frst_ok 8 (mvP V A T s)
  obtain ⟨K, hK⟩ : ∃ K, K = frst (mvP V A T s) 8 := ⟨_, rfl⟩
  have step : ∀ t, t < 8 → f_X3_moveFrom_s2 mm (nI s) (nI t) = if mvP V A T s t then some (.inr (.inl (nI t))) else some (.inl (nI (t + 1))) := fun t ht => by
    have hnl := ndf_le s (2 ^ t)
    have hlb := lif_bd ov oa (ndf s (2 ^ t)) 0
    have elf : f_X4_lift mm 33 27 (nI (ndf s (2 ^ t))) (0 : Int32) = some (zI (lif V A (ndf s (2 ^ t)) 0)) := lift_c (mi := 0) hv ov hr oa (by omega) (by decide)
    unfold f_X3_moveFrom_s2 mvP
    rw [K8, if_neg (by rw [sN_le (by decide) (by omega)]; omega), nx_sh t (by omega), nx_ndf, vl_s, sN_a1]
    by_cases c : s.testBit t = true
    · have hls := ndf_less c
      have hTu := hT _ hls (ndf_sb hsp)
      rw [if_neg (by rw [sN_eq (by omega) (by omega)]; omega), if_neg (gd_ok (by omega) (by decide)), cl_ok (by omega), hTu.1, c, Bool.true_and, elf, bi1_s]
      cases hb : T (ndf s (2 ^ t)) with
      | none =>
        rw [show encO (-1) (none : Option Nat) = -1 from rfl, if_pos rfl, show (none : Option Nat).isNone = true from rfl, Bool.and_true]
        by_cases d : 0 ≤ lif V A (ndf s (2 ^ t)) 0
        · rw [if_neg (by rw [zI_0, zI_lt (by omega) (by omega) (by omega) (by omega)]; omega), decide_eq_true d, if_pos rfl]
        · rw [if_pos (by rw [zI_0, zI_lt (by omega) (by omega) (by omega) (by omega)]; omega), decide_eq_false d, if_neg (by decide)]
      | some b =>
        have hb8 := hTu.2 b hb
        rw [show encO (-1) (some b) = nI b from rfl, if_neg (nm1 (by omega)), show (some b).isNone = false from rfl, Bool.and_false, if_neg (by decide)]
    · rw [ndf_same (Bool.eq_false_iff.mpr c), if_pos rfl, Bool.eq_false_iff.mpr c, Bool.false_and, if_neg (by decide)]
  unfold f_X3_moveFrom mvF
  rw [← hK] at k1 k2 k3 ⊢
  by_cases c : K < 8
  · have e : lp (f_X3_moveFrom_s2 mm (nI s)) (0 : Int32) = some (.inl (nI K)) := lpf (fun i => nI i) K rfl (fun i hi => by rw [step i (by omega), k2 i hi, if_neg (by decide)]) (by rw [step K c, k3 c, if_pos rfl])
    rw [e, if_pos c]
    rfl
  · have e : lp (f_X3_moveFrom_s2 mm (nI s)) (0 : Int32) = some (.inr ()) := lpf (fun i => nI i) 8 rfl (fun i hi => by rw [step i (by omega), k2 i (by omega), if_neg (by decide)]) (by unfold f_X3_moveFrom_s2; rw [if_pos (by decide)])
    rw [e, if_neg c]
    rfl
theorem mvF_lt {V A : Dat} {T : Nat → Option Nat} {s b : Nat} (h : mvF V A T s = some b) : b < 8 := by
  unfold mvF at h
  by_cases c : frst (mvP V A T s) 8 < 8
  · rw [if_pos c] at h
    have := Option.some.inj h
    omega
  · rw [if_neg c] at h
    cases h
theorem gT_lt {V A : Dat} {pc : Nat} : ∀ k s b, gT V A pc k s = some b → b < 8
  | 0, s, b, h => by
    have h : (none : Option Nat) = some b := h
    cases h
  | k + 1, s, b, h => by
    have h : (if s = k ∧ ndf k pc = 0 then mvF V A (gT V A pc k) k else gT V A pc k s) = some b := h
    by_cases c : s = k ∧ ndf k pc = 0
    · rw [if_pos c] at h
      exact mvF_lt h
    · rw [if_neg c] at h
      exact gT_lt k s b h
theorem winning_c {mm : Mm} {V A : Dat} {L : Rop} {S : Int32} (hv : RvC mm 27 V) (ov : RvOk V) (hr : RaC mm 33 V A L S) (oa : RaOk V A L) {t : Nat} (ht : t < V 1 2) : ∃ m1, f_X3_winningMove mm (nI t) = some (encO (-1) (gT V A (pOf V A L 0 t) (pOf V A L 0 t + 1) (pOf V A L 0 t)), m1) ∧ ∀ i, ¬ scC i → m1.1 i = mm.1 i := by
  have h8 := ov.2.2.1
  obtain ⟨pc, hpc⟩ : ∃ pc, pc = pOf V A L 0 t := ⟨_, rfl⟩
  have hpl : pc < 256 := by rw [hpc]; exact pOf_lt _ _ _ _ _
  have ej := join_c hv ov hr oa (by decide) (by decide) (g := 0) (by decide)
  obtain ⟨m, hm⟩ : ∃ m, m = wA mm 230 (rowN 8 (pOf V A L 0) (mm.1 230)) := ⟨_, rfl⟩
  rw [← hm] at ej
  have e230 : m.1 230 t = nI pc := by rw [hm, wA_at, rowN_at _ _ (by omega), hpc]
  rw [← hpc]
  have fm : ∀ i, ¬ i = 230 → m.1 i = mm.1 i := fun i h1 => by rw [hm, wA_ne h1]
  have hx : ∃ w, lp (f_X3_winningMove_s24 (nI pc)) ((0 : Int32), m) = some w ∧ (∀ i, ¬ i = 233 → w.1 i = m.1 i) ∧ ∀ u, u < pc + 1 → ndf u pc = 0 → w.1 233 u = encO (-1) (gT V A pc (pc + 1) u) := by
    refine lp_inv (fun k x => ∃ w, x = (nI k, w) ∧ (∀ i, ¬ i = 233 → w.1 i = m.1 i) ∧ ∀ u, u < k → ndf u pc = 0 → w.1 233 u = encO (-1) (gT V A pc k u)) _ (pc + 1) (fun k x hk hx => ?_) (fun x hx => ?_) 0 _ (Nat.zero_le _) ⟨m, rfl, fun _ _ => rfl, fun u hu => absurd hu (by omega)⟩
    · obtain ⟨w, rfl, w1, w2⟩ := hx
      have g : ∀ i, ¬ i = 230 → ¬ i = 233 → w.1 i = mm.1 i := fun i h1 h2 => by rw [w1 i h2, fm i h1]
      have hnk := ndf_le k pc
      unfold f_X3_winningMove_s24
      dsimp only
      rw [if_neg (by rw [sN_lt (by omega) (by omega)]; omega), nx_ndf]
      by_cases c : ndf k pc = 0
      · rw [if_pos (by rw [c]; rfl), moveFrom_c (RvC_eq (fun j hj => g _ (by omega) (by omega)) hv) ov (RaC_eq (fun j hj => g _ (by omega) (by omega)) hr) oa (by omega) c (T := gT V A pc k) (fun u hu hu2 => ⟨w2 u hu hu2, fun b hb => gT_lt k u b hb⟩), bi1_s, if_neg (gd_ok (by omega) (by decide)), cl_ok (by omega), vl_s]
        refine ⟨_, rfl, _, by rw [sN_a1], fun i hi => by rw [wI_ne hi, w1 i hi], fun u hu hu2 => ?_⟩
        show _ = encO (-1) (if u = k ∧ ndf k pc = 0 then mvF V A (gT V A pc k) k else gT V A pc k u)
        by_cases d : u = k
        · rw [if_pos ⟨d, c⟩, d, wI_at]
        · rw [if_neg (fun z => d z.1), wI_pl d, w2 u (by omega) hu2]
      · rw [if_neg (by rw [sN_eq0 (by omega)]; exact c)]
        refine ⟨_, rfl, w, by rw [sN_a1], w1, fun u hu hu2 => ?_⟩
        show _ = encO (-1) (if u = k ∧ ndf k pc = 0 then mvF V A (gT V A pc k) k else gT V A pc k u)
        have hne : ¬ u = k := fun d => by
          rw [d] at hu2
          exact c hu2
        rw [if_neg (fun z => c z.2), w2 u (by omega) hu2]
    · obtain ⟨w, rfl, w1, w2⟩ := hx
      refine ⟨w, ?_, w1, w2⟩
      unfold f_X3_winningMove_s24
      dsimp only
      rw [if_pos (by rw [sN_lt (by omega) (by omega)]; omega)]
  obtain ⟨w, e, h1, h2⟩ := hx
  refine ⟨w, ?_, fun i hi => by rw [h1 i (fun z => hi (by unfold scC; omega)), fm i (fun z => hi (by unfold scC; omega))]⟩
  unfold f_X3_winningMove
  rw [show f_X2_join mm 33 27 (0 : Int32) = some m from ej, bi1_s, if_neg (gd_ok (by omega) (by decide)), cl_ok (by omega), e230, vl_s, e, bi1_s, if_neg (gd_ok (by omega) (by decide)), cl_ok (by omega), h2 pc (by omega) (ndf_of (fun _ h => h))]
/-! the reference's -/
theorem winningFrom_f {mm : Mm} {V A : Dat} {L : Rop} {S : Int32} (hv : RvF mm V) (ov : RvOk V) (hr : RaF mm V A L S) (oa : RaOk V A L) {T : Nat → Option Nat} {s pc : Nat} (hs : s < 256) (hsp : ndf s pc = 0) (hpc : ∀ u, pc.testBit u = true → u < V 1 2) (hT : ∀ u, u < s → ndf u pc = 0 → mm.1 1138 u = if (T u).isNone then 0 else 1) : f_X12_winningFrom mm (nI s) = some (encO (-1) (mvF V A T s)) := by
  have h8 := ov.2.2.1
  obtain ⟨k1, k2, k3⟩ := frst_ok 8 (mvP V A T s)
  obtain ⟨K, hK⟩ : ∃ K, K = frst (mvP V A T s) 8 := ⟨_, rfl⟩
  have step : ∀ t, t < V 1 2 → f_X12_winningFrom_s2 mm (nI s) (nI t) = if mvP V A T s t then some (.inr (.inl (nI t))) else some (.inl (nI (t + 1))) := fun t ht => by
    have hnl := ndf_le s (2 ^ t)
    unfold f_X12_winningFrom_s2 mvP
    rw [hv.1.2.2, if_neg (by rw [sN_le (by omega) (by omega)]; omega), nx_sh t (by omega), nx_ndf, vl_s, sN_a1, has_ok (by omega) (by omega)]
    by_cases c : s.testBit t = true
    · have hls := ndf_less c
      have hTu := hT _ hls (ndf_sb hsp)
      rw [c, if_pos rfl, if_neg (by decide), isBorne_f hv ov hr oa (by omega), bi1_s, Bool.true_and]
      by_cases d : 0 ≤ lif V A (ndf s (2 ^ t)) 0
      · rw [if_pos d, if_neg (by decide), if_neg (gd_ok (by omega) (by decide)), cl_ok (by omega), hTu, decide_eq_true d, Bool.true_and]
        cases hb : (T (ndf s (2 ^ t))).isNone
        · rw [if_neg (by decide), if_neg (by decide)]
        · rw [if_pos rfl, if_pos rfl, if_pos rfl]
      · rw [if_neg d, if_pos rfl, decide_eq_false d, Bool.false_and, if_neg (by decide)]
    · rw [Bool.eq_false_iff.mpr c, Bool.false_and]
      rfl
  unfold f_X12_winningFrom mvF
  rw [← hK] at k1 k2 k3 ⊢
  by_cases c : K < 8
  · have hk := k3 c
    have hkt : K < V 1 2 := by
      unfold mvP at hk
      rw [Bool.and_eq_true] at hk
      exact hpc K (ndf_sub hsp hk.1)
    have e : lp (f_X12_winningFrom_s2 mm (nI s)) (0 : Int32) = some (.inl (nI K)) := lpf (fun i => nI i) K rfl (fun i hi => by rw [step i (by omega), k2 i hi, if_neg (by decide)]) (by rw [step K hkt, hk, if_pos rfl])
    rw [e, if_pos c]
    rfl
  · have e : lp (f_X12_winningFrom_s2 mm (nI s)) (0 : Int32) = some (.inr ()) := lpf (fun i => nI i) (V 1 2) rfl (fun i hi => by rw [step i (by omega), k2 i (by omega), if_neg (by decide)]) (by unfold f_X12_winningFrom_s2; rw [hv.1.2.2, if_pos (by rw [sN_le (by omega) (by omega)]; omega)])
    rw [e, if_neg c]
    rfl
theorem nar0 : vp_nar .boolean (0 : Int32) = 0 := by decide
theorem gameL_f {mm : Mm} {V A : Dat} {L : Rop} {S : Int32} (hv : RvF mm V) (ov : RvOk V) (hr : RaF mm V A L S) (oa : RaOk V A L) {pc : Nat} (hpl : pc < 256) (hpc : ∀ u, pc.testBit u = true → u < V 1 2) {y : Int32} : ∃ w, lp (f_X12_game_s29 y (nI pc)) ((0 : Int32), mm) = some w ∧ (∀ i, ¬ i = 1138 → w.1 i = mm.1 i) ∧ ∀ u, u < pc + 1 → ndf u pc = 0 → w.1 1138 u = if (gT V A pc (pc + 1) u).isNone then 0 else 1 := by
  refine lp_inv (fun k x => ∃ w, x = (nI k, w) ∧ (∀ i, ¬ i = 1138 → w.1 i = mm.1 i) ∧ ∀ u, u < k → ndf u pc = 0 → w.1 1138 u = if (gT V A pc k u).isNone then 0 else 1) _ (pc + 1) (fun k x hk hx => ?_) (fun x hx => ?_) 0 _ (Nat.zero_le _) ⟨mm, rfl, fun _ _ => rfl, fun u hu => absurd hu (by omega)⟩
  · obtain ⟨w, rfl, w1, w2⟩ := hx
    have hvw : RvF w V := RvF_eq (fun i i1 i2 => w1 i (by omega)) hv
    have hrw : RaF w V A L S := RaF_eq (fun i i1 i2 => w1 i (by omega)) hr
    have hnk := ndf_le k pc
    unfold f_X12_game_s29 f_X12_game_j65
    dsimp only
    rw [if_neg (by rw [sN_lt (by omega) (by omega)]; omega), nx_ndf]
    by_cases c : ndf k pc = 0
    · rw [if_pos (by rw [c]; rfl), winningFrom_f hvw ov hrw oa (by omega) c hpc (T := gT V A pc k) w2, bi1_s, if_neg (gd_ok (by omega) (by decide)), cl_ok (by omega), nar0, nar1, vl_s, vl_s]
      have fin : ∀ z : Int32, z = (if (mvF V A (gT V A pc k) k).isNone then 0 else 1) → ∀ u, u < k + 1 → ndf u pc = 0 → (wI w 1138 k z).1 1138 u = if (gT V A pc (k + 1) u).isNone then 0 else 1 := fun z hz u hu hu2 => by
        by_cases d : u = k
        · have eg : gT V A pc (k + 1) u = mvF V A (gT V A pc k) k := if_pos ⟨d, c⟩
          rw [eg, d, wI_at, hz]
        · have eg : gT V A pc (k + 1) u = gT V A pc k u := if_neg (fun z => d z.1)
          rw [eg, wI_pl d, w2 u (by omega) hu2]
      cases hb : mvF V A (gT V A pc k) k with
      | none =>
        rw [show encO (-1) (none : Option Nat) = -1 from rfl, if_pos rfl]
        exact ⟨(nI (k + 1), wI w 1138 k 0), by rw [sN_a1], _, rfl, fun i hi => by rw [wI_ne hi, w1 i hi], fin 0 (by rw [hb]; rfl)⟩
      | some b =>
        have := mvF_lt hb
        rw [show encO (-1) (some b) = nI b from rfl, if_neg (nm1 (by omega))]
        exact ⟨(nI (k + 1), wI w 1138 k 1), by rw [if_neg (show ¬ (nI k < 0 ∨ 256 ≤ k) from fun z => z.elim (nI_nn k (by omega)) (fun y => by omega)), sN_a1], _, rfl, fun i hi => by rw [wI_ne hi, w1 i hi], fin 1 (by rw [hb]; rfl)⟩
    · rw [if_neg (by rw [sN_eq0 (by omega)]; exact c)]
      refine ⟨_, rfl, w, by rw [sN_a1], w1, fun u hu hu2 => ?_⟩
      have hne : ¬ u = k := fun d => by
        rw [d] at hu2
        exact c hu2
      have eg : gT V A pc (k + 1) u = gT V A pc k u := if_neg (fun z => c z.2)
      rw [eg, w2 u (by omega) hu2]
  · obtain ⟨w, rfl, w1, w2⟩ := hx
    refine ⟨w, ?_, w1, w2⟩
    unfold f_X12_game_s29
    dsimp only
    rw [if_pos (by rw [sN_lt (by omega) (by omega)]; omega)]
theorem sm_game_ok : sm_game Inv := by
  intro mm x w hInv
  obtain ⟨ol, V, R, na, P, O, xx, hC, hF, ok⟩ := SimS_St hInv.2.2.1
  have hv := StC_rv hC
  have hr := StC_ra hC
  have hvF := rvF_RvF hF.1 ok.1
  have hrF := StF_ra hF
  have ov := ok.1.1
  have oa := ok.2.2.2.2.2.2.1
  unfold f_X11_game
  rw [isAfloat_c hv ov hr oa, bi1_s]
  by_cases ha : Afl V R.1 x
  · have ha' := ha
    obtain ⟨t, ht, rfl⟩ := ha
    obtain ⟨pc, hpc⟩ : ∃ pc, pc = pOf V R.1 R.2.1 0 t := ⟨_, rfl⟩
    have hpl : pc < 256 := by rw [hpc]; exact pOf_lt _ _ _ _ _
    have hpb : ∀ u, pc.testBit u = true → u < V 1 2 := fun u hu => by rw [hpc] at hu; exact (PP_sub (pOf_PP ov oa 0) t u hu).1
    rw [pb_t ha', if_pos rfl, if_neg (by decide)]
    obtain ⟨m1, e1, f1⟩ := winning_c hv ov hr oa ht.1
    rw [← hpc] at e1
    have hF1 : StF (fS m1) V R na P O xx := StF_cl (fun i hi => f1 i (sc_F hi)) hF
    have hv1 := rvF_RvF hF1.1 ok.1
    have hr1 := StF_ra hF1
    obtain ⟨m2, e2, g1, g2⟩ := gameL_f hv1 ov hr1 oa hpl hpb (y := w)
    have hv2 : RvF m2 V := RvF_eq (fun i i1 i2 => g1 i (by omega)) hv1
    have hr2 : RaF m2 V R.1 R.2.1 R.2.2 := RaF_eq (fun i i1 i2 => g1 i (by omega)) hr1
    have hself : ndf pc pc = 0 := ndf_of (fun _ h => h)
    have eg : gT V R.1 pc (pc + 1) pc = mvF V R.1 (gT V R.1 pc (pc + 1)) pc := by
      show (if pc = pc ∧ ndf pc pc = 0 then mvF V R.1 (gT V R.1 pc pc) pc else gT V R.1 pc pc pc) = _
      rw [if_pos ⟨rfl, hself⟩]
      refine mvF_cg hself (fun u hu _ => ?_)
      show _ = if u = pc ∧ ndf pc pc = 0 then mvF V R.1 (gT V R.1 pc pc) pc else gT V R.1 pc pc u
      rw [if_neg (fun z => by omega)]
    have ew : f_X12_winningFrom m2 (nI pc) = some (encO (-1) (gT V R.1 pc (pc + 1) pc)) := by
      rw [eg]
      exact winningFrom_f hv2 ov hr2 oa hpl hself hpb (fun u hu hu2 => g2 u (by omega) hu2)
    have hInv2 : Inv m2 := Inv_scF (Inv_sc hInv f1) (fun i hi _ => g1 i (fun z => hi (by unfold scF; omega))) (fun j _ => by rw [g1 1088 (by decide)])
    have e38 := g2 pc (by omega) hself
    have head : f_X12_in w.toInt64 (0 : Int64) (1 : Int64) = 1 → f_X12_game m1 (nI t) w = if w = 0 then (if (gT V R.1 pc (pc + 1) pc).isNone then some ((0 : Int32), m2) else some ((1 : Int32), m2)) else (if (gT V R.1 pc (pc + 1) pc).isNone then some ((-2 : Int32), m2) else some (encO (-1) (gT V R.1 pc (pc + 1) pc), m2)) := fun hin => by
      unfold f_X12_game
      rw [isAfloat_f hv1 ov hr1 oa, pb_t ha', bi1_s, if_pos rfl, if_neg (by decide), hin, if_neg (by decide), pieceOf_f hv1 ov hr1 oa ht, bi1_s, ← hpc, e2, bi1_s, if_neg (gd_ok (by omega) (by decide)), cl_ok (by omega), e38, ew, bi1_s]
      cases hb : (gT V R.1 pc (pc + 1) pc).isNone
      · by_cases c : w = 0
        · rw [if_pos c, if_pos c]; rfl
        · rw [if_neg c, if_neg c, if_neg (show ¬ (nI pc < 0 ∨ 256 ≤ pc) from fun z => z.elim (nI_nn pc (by omega)) (fun y => by omega))]; rfl
      · by_cases c : w = 0
        · rw [if_pos c, if_pos c]; rfl
        · rw [if_neg c, if_neg c, if_neg (show ¬ (nI pc < 0 ∨ 256 ≤ pc) from fun z => z.elim (nI_nn pc (by omega)) (fun y => by omega))]; rfl
    rcases in01 w with ⟨rfl, hin⟩ | ⟨rfl, hin⟩ | ⟨hw, hin⟩
    · have hd := head hin
      rw [if_pos rfl] at hd
      rw [if_neg (by decide), if_pos (by decide), e1, bi2_s, if_pos rfl]
      cases hb : gT V R.1 pc (pc + 1) pc with
      | none =>
        rw [hb] at hd
        exact ⟨_, m1, m2, rfl, hd, hInv2⟩
      | some b =>
        have hb8 := gT_lt _ _ b hb
        rw [hb] at hd
        exact ⟨_, m1, m2, by rw [show encO (-1) (some b) = nI b from rfl, if_neg (nm1 (by omega))], hd, hInv2⟩
    · have hd := head hin
      rw [if_neg (by decide)] at hd
      rw [if_neg (by decide), if_pos (by decide), e1, bi2_s, if_neg (by decide)]
      cases hb : gT V R.1 pc (pc + 1) pc with
      | none =>
        rw [hb] at hd
        exact ⟨_, m1, m2, rfl, hd, hInv2⟩
      | some b =>
        have hb8 := gT_lt _ _ b hb
        rw [hb] at hd
        exact ⟨_, m1, m2, by rw [show encO (-1) (some b) = nI b from rfl, if_neg (nm1 (by omega))], hd, hInv2⟩
    · refine ⟨-1, mm, mm, ?_, ?_, hInv⟩
      · rcases hw with hw | ⟨hw1, hw2⟩
        · rw [if_pos hw]
        · rw [if_neg hw1, if_neg hw2]
      · unfold f_X12_game
        rw [isAfloat_f hvF ov hrF oa, pb_t ha', bi1_s, if_pos rfl, if_neg (by decide), hin, if_pos rfl]
  · rw [pb_f ha]
    refine ⟨-1, mm, mm, rfl, ?_, hInv⟩
    unfold f_X12_game
    rw [isAfloat_f hvF ov hrF oa, pb_f ha]
    rfl
