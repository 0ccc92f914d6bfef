/-! WHAT CELLS THERE ARE, in the order in which the two constructors make them (by program) -/
def ng : Nat → Option Nat := fun _ => none
def lRiver (v : Nat) : List Lay := [.inl (5, [none, none, none, none, some (some (v + 1)), some (some (v + 2)), some (some (v + 3)), some (some (v + 4)), some (some (v + 5))]), .inr (0, 6, ng), .inr (0, 6, ng), .inr (0, 8, ng), .inr (0, 8, ng), .inr (0, 100, ng)]
def lRaft (r v : Nat) : List Lay := [.inl (4, [some (some (v)), none, none, none, some (some (r + 1)), some (some (r + 2)), some (some (r + 3)), some (some (r + 4)), some (some (r + 5)), some (some (r + 6)), some (some (r + 7)), some (some (r + 8))]), .inr (0, 6, ng), .inr (0, 8, ng), .inr (0, 8, ng), .inr (0, 8, ng), .inr (0, 8, ng), .inr (0, 12, ng), .inr (0, 12, ng), .inr (0, 12, ng)]
def lRule (u : Nat) : List Lay := [.inl (7, [some (some (u + 1)), none, some (some (u + 2)), some (some (u + 3)), some (some (u + 4)), none, some (some (u + 5))]), .inr (0, 400, ng), .inr (0, 12, ng), .inr (0, 12, ng), .inr (0, 12, ng), .inr (3, 64, ng)]
def lRafts : Nat → Nat → Nat → List Lay
  | 0, _, _ => []
  | k + 1, r, v => lRaft r v ++ lRafts k (r + 9) v
def lState (S : Nat) : List Lay := (.inl (9, [some (some (S + 1)), some (some (S + 7)), some (some (S + 16)), none, none, none, some (some (S + 17)), some (some (S + 18)), some (some (S + 19)), none]) : Lay) :: (lRiver (S + 1) ++ (lRaft (S + 7) (S + 1) ++ ([.inr (6, 20, fun j => if j < 20 then some (S + 20 + 9 * j) else none), .inr (0, 6, ng), .inr (0, 6, ng), .inr (0, 6, ng)] ++ lRafts 20 (S + 20) (S + 1))))
def lA : List Lay := [.inl (11, [some (some (1)), some (some (3)), some (some (19)), some (some (26)), some (some (226)), some (some (227)), some (some (228)), none, some (some (229)), some (some (232)), some (some (234)), some (some (238)), some (some (242)), some (some (251))]), .inl (10, [some (some (2)), none, none, none, none]), .inr (1, 400, ng), .inl (6, [some (some (1)), some (some (4)), some (some (10))])]
def lB : List Lay := [.inr (4, 4, fun j => if j < 4 then some (252 + 200 * j) else none), .inr (2, 4, ng), .inr (5, 6, fun j => if j < 6 then some (1052 + 6 * j) else none), .inl (2, [some (some (230)), some (some (231))]), .inr (0, 8, ng), .inr (0, 6, ng), .inl (3, [some (some (26)), some (some (33)), some (some (229)), some (some (233)), none, none, none, none, none, none]), .inr (0, 256, ng), .inl (1, [some (some (33)), some (some (235)), none, some (some (236)), some (some (237)), none, none]), .inr (0, 6, ng), .inr (0, 256, ng), .inr (0, 8, ng), .inl (0, [some (some (33)), none, none, some (some (239)), some (some (240)), some (some (241))]), .inr (0, 8, ng), .inr (0, 8, ng), .inr (0, 8, ng)]
def lC : List Lay := [.inr (0, 3, ng)]
def lM : List Lay := [.inl (12, [none, some (some (1089)), some (some (1090)), some (some (1091)), some (some (1092)), some (some (1093)), some (some (1094)), some (some (1095)), some (some (1096)), some (some (1097)), some (some (1098)), some (some (1099)), some (some (1100)), some (some (1101)), some (some (1102)), some (some (1103)), some (some (1104)), some (some (1105)), some (some (1106)), some (some (1107)), some (some (1108)), some (some (1109)), some (some (1110)), some (some (1111)), some (some (1112)), some (some (1113)), some (some (1114)), some (some (1115)), some (some (1116)), some (some (1117)), some (some (1118)), none, none, none, none, none, none, none, none, none, none, some (some (1119)), some (some (1120)), some (some (1121)), some (some (1122)), some (some (1123)), some (some (1124)), some (some (1125)), some (some (1126)), some (some (1127)), some (some (1128)), none, none, some (some (1129)), some (some (1130)), none, none, none, some (some (1131)), some (some (1132)), some (some (1133)), none, none, some (some (1134)), some (some (1135)), some (some (1136)), none, some (some (1137)), some (some (1138)), some (some (1139)), some (some (1140)), none, none]), .inr (0, 9, ng), .inr (0, 6, ng), .inr (0, 6, ng), .inr (0, 6, ng), .inr (0, 8, ng), .inr (0, 8, ng), .inr (0, 8, ng), .inr (0, 8, ng), .inr (0, 8, ng), .inr (0, 8, ng), .inr (0, 12, ng), .inr (0, 12, ng), .inr (0, 12, ng), .inr (0, 6, ng), .inr (0, 6, ng), .inr (0, 6, ng), .inr (0, 6, ng), .inr (0, 6, ng), .inr (0, 6, ng), .inr (0, 6, ng), .inr (0, 6, ng), .inr (0, 8, ng), .inr (0, 8, ng), .inr (0, 8, ng), .inr (0, 8, ng), .inr (0, 12, ng), .inr (0, 12, ng), .inr (0, 12, ng), .inr (0, 6, ng), .inr (0, 6, ng), .inr (1, 400, ng), .inr (0, 1800, ng), .inr (0, 1800, ng), .inr (0, 6, ng), .inr (0, 72, ng), .inr (0, 72, ng), .inr (0, 72, ng), .inr (0, 402, ng), .inr (3, 12, ng), .inr (3, 300, ng), .inr (0, 1540, ng), .inr (0, 1, ng), .inr (0, 9, ng), .inr (0, 8, ng), .inr (0, 7, ng), .inr (0, 9, ng), .inr (0, 8, ng), .inr (0, 8, ng), .inr (0, 8, ng), .inr (2, 256, ng), .inr (0, 9500, ng), .inr (2, 4, ng)]
def LY : List Lay := lA ++ (lRiver 4 ++ (lRaft 10 4 ++ ([.inl (8, [some (some (1)), some (some (20)), none])] ++ (lRule 20 ++ (lState 26 ++ (lB ++ (lRaft 242 27 ++ (lC ++ (lState 252 ++ (lState 452 ++ (lState 652 ++ (lState 852 ++ (lRule 1052 ++ (lRule 1058 ++ (lRule 1064 ++ (lRule 1070 ++ (lRule 1076 ++ (lRule 1082 ++ (lM)))))))))))))))))))
def isRiver (v : Nat) : Prop := LY[v]? = some (.inl (5, [none, none, none, none, some (some (v + 1)), some (some (v + 2)), some (some (v + 3)), some (some (v + 4)), some (some (v + 5))])) ∧ LY[v + 1]? = some (.inr (0, 6, ng)) ∧ LY[v + 2]? = some (.inr (0, 6, ng)) ∧ LY[v + 3]? = some (.inr (0, 8, ng)) ∧ LY[v + 4]? = some (.inr (0, 8, ng)) ∧ LY[v + 5]? = some (.inr (0, 100, ng))
theorem isRiver.a0 {v : Nat} (h : isRiver v) : LY[v]? = some (.inl (5, [none, none, none, none, some (some (v + 1)), some (some (v + 2)), some (some (v + 3)), some (some (v + 4)), some (some (v + 5))])) := h.1
theorem isRiver.a1 {v : Nat} (h : isRiver v) : LY[v + 1]? = some (.inr (0, 6, ng)) := h.2.1
theorem isRiver.a2 {v : Nat} (h : isRiver v) : LY[v + 2]? = some (.inr (0, 6, ng)) := h.2.2.1
theorem isRiver.a3 {v : Nat} (h : isRiver v) : LY[v + 3]? = some (.inr (0, 8, ng)) := h.2.2.2.1
theorem isRiver.a4 {v : Nat} (h : isRiver v) : LY[v + 4]? = some (.inr (0, 8, ng)) := h.2.2.2.2.1
theorem isRiver.a5 {v : Nat} (h : isRiver v) : LY[v + 5]? = some (.inr (0, 100, ng)) := h.2.2.2.2.2
def isRaft (r v : Nat) : Prop := LY[r]? = some (.inl (4, [some (some (v)), none, none, none, some (some (r + 1)), some (some (r + 2)), some (some (r + 3)), some (some (r + 4)), some (some (r + 5)), some (some (r + 6)), some (some (r + 7)), some (some (r + 8))])) ∧ LY[r + 1]? = some (.inr (0, 6, ng)) ∧ LY[r + 2]? = some (.inr (0, 8, ng)) ∧ LY[r + 3]? = some (.inr (0, 8, ng)) ∧ LY[r + 4]? = some (.inr (0, 8, ng)) ∧ LY[r + 5]? = some (.inr (0, 8, ng)) ∧ LY[r + 6]? = some (.inr (0, 12, ng)) ∧ LY[r + 7]? = some (.inr (0, 12, ng)) ∧ LY[r + 8]? = some (.inr (0, 12, ng)) ∧ isRiver v
theorem isRaft.a0 {r v : Nat} (h : isRaft r v) : LY[r]? = some (.inl (4, [some (some (v)), none, none, none, some (some (r + 1)), some (some (r + 2)), some (some (r + 3)), some (some (r + 4)), some (some (r + 5)), some (some (r + 6)), some (some (r + 7)), some (some (r + 8))])) := h.1
theorem isRaft.a1 {r v : Nat} (h : isRaft r v) : LY[r + 1]? = some (.inr (0, 6, ng)) := h.2.1
theorem isRaft.a2 {r v : Nat} (h : isRaft r v) : LY[r + 2]? = some (.inr (0, 8, ng)) := h.2.2.1
theorem isRaft.a3 {r v : Nat} (h : isRaft r v) : LY[r + 3]? = some (.inr (0, 8, ng)) := h.2.2.2.1
theorem isRaft.a4 {r v : Nat} (h : isRaft r v) : LY[r + 4]? = some (.inr (0, 8, ng)) := h.2.2.2.2.1
theorem isRaft.a5 {r v : Nat} (h : isRaft r v) : LY[r + 5]? = some (.inr (0, 8, ng)) := h.2.2.2.2.2.1
theorem isRaft.a6 {r v : Nat} (h : isRaft r v) : LY[r + 6]? = some (.inr (0, 12, ng)) := h.2.2.2.2.2.2.1
theorem isRaft.a7 {r v : Nat} (h : isRaft r v) : LY[r + 7]? = some (.inr (0, 12, ng)) := h.2.2.2.2.2.2.2.1
theorem isRaft.a8 {r v : Nat} (h : isRaft r v) : LY[r + 8]? = some (.inr (0, 12, ng)) := h.2.2.2.2.2.2.2.2.1
theorem isRaft.a9 {r v : Nat} (h : isRaft r v) : isRiver v := h.2.2.2.2.2.2.2.2.2
def isRule (u : Nat) : Prop := LY[u]? = some (.inl (7, [some (some (u + 1)), none, some (some (u + 2)), some (some (u + 3)), some (some (u + 4)), none, some (some (u + 5))])) ∧ LY[u + 1]? = some (.inr (0, 400, ng)) ∧ LY[u + 2]? = some (.inr (0, 12, ng)) ∧ LY[u + 3]? = some (.inr (0, 12, ng)) ∧ LY[u + 4]? = some (.inr (0, 12, ng)) ∧ LY[u + 5]? = some (.inr (3, 64, ng))
theorem isRule.a0 {u : Nat} (h : isRule u) : LY[u]? = some (.inl (7, [some (some (u + 1)), none, some (some (u + 2)), some (some (u + 3)), some (some (u + 4)), none, some (some (u + 5))])) := h.1
theorem isRule.a1 {u : Nat} (h : isRule u) : LY[u + 1]? = some (.inr (0, 400, ng)) := h.2.1
theorem isRule.a2 {u : Nat} (h : isRule u) : LY[u + 2]? = some (.inr (0, 12, ng)) := h.2.2.1
theorem isRule.a3 {u : Nat} (h : isRule u) : LY[u + 3]? = some (.inr (0, 12, ng)) := h.2.2.2.1
theorem isRule.a4 {u : Nat} (h : isRule u) : LY[u + 4]? = some (.inr (0, 12, ng)) := h.2.2.2.2.1
theorem isRule.a5 {u : Nat} (h : isRule u) : LY[u + 5]? = some (.inr (3, 64, ng)) := h.2.2.2.2.2
def isState (S : Nat) : Prop := LY[S]? = some (.inl (9, [some (some (S + 1)), some (some (S + 7)), some (some (S + 16)), none, none, none, some (some (S + 17)), some (some (S + 18)), some (some (S + 19)), none])) ∧ isRiver (S + 1) ∧ isRaft (S + 7) (S + 1) ∧ LY[S + 16]? = some (.inr (6, 20, fun j => if j < 20 then some (S + 20 + 9 * j) else none)) ∧ LY[S + 17]? = some (.inr (0, 6, ng)) ∧ LY[S + 18]? = some (.inr (0, 6, ng)) ∧ LY[S + 19]? = some (.inr (0, 6, ng)) ∧ (∀ j, j < 20 → isRaft (S + 20 + 9 * j) (S + 1))
theorem isState.a0 {S : Nat} (h : isState S) : LY[S]? = some (.inl (9, [some (some (S + 1)), some (some (S + 7)), some (some (S + 16)), none, none, none, some (some (S + 17)), some (some (S + 18)), some (some (S + 19)), none])) := h.1
theorem isState.a1 {S : Nat} (h : isState S) : isRiver (S + 1) := h.2.1
theorem isState.a2 {S : Nat} (h : isState S) : isRaft (S + 7) (S + 1) := h.2.2.1
theorem isState.a3 {S : Nat} (h : isState S) : LY[S + 16]? = some (.inr (6, 20, fun j => if j < 20 then some (S + 20 + 9 * j) else none)) := h.2.2.2.1
theorem isState.a4 {S : Nat} (h : isState S) : LY[S + 17]? = some (.inr (0, 6, ng)) := h.2.2.2.2.1
theorem isState.a5 {S : Nat} (h : isState S) : LY[S + 18]? = some (.inr (0, 6, ng)) := h.2.2.2.2.2.1
theorem isState.a6 {S : Nat} (h : isState S) : LY[S + 19]? = some (.inr (0, 6, ng)) := h.2.2.2.2.2.2.1
theorem isState.a7 {S : Nat} (h : isState S) : (∀ j, j < 20 → isRaft (S + 20 + 9 * j) (S + 1)) := h.2.2.2.2.2.2.2
set_option maxRecDepth 100000 in
theorem L0 : LY[0]? = some (.inl (11, [some (some (1)), some (some (3)), some (some (19)), some (some (26)), some (some (226)), some (some (227)), some (some (228)), none, some (some (229)), some (some (232)), some (some (234)), some (some (238)), some (some (242)), some (some (251))])) := rfl
set_option maxRecDepth 100000 in
theorem L1 : LY[1]? = some (.inl (10, [some (some (2)), none, none, none, none])) := rfl
set_option maxRecDepth 100000 in
theorem L2 : LY[2]? = some (.inr (1, 400, ng)) := rfl
set_option maxRecDepth 100000 in
theorem L3 : LY[3]? = some (.inl (6, [some (some (1)), some (some (4)), some (some (10))])) := rfl
set_option maxRecDepth 100000 in
theorem L19 : LY[19]? = some (.inl (8, [some (some (1)), some (some (20)), none])) := rfl
set_option maxRecDepth 100000 in
theorem L227 : LY[227]? = some (.inr (2, 4, ng)) := rfl
set_option maxRecDepth 100000 in
theorem L229 : LY[229]? = some (.inl (2, [some (some (230)), some (some (231))])) := rfl
set_option maxRecDepth 100000 in
theorem L230 : LY[230]? = some (.inr (0, 8, ng)) := rfl
set_option maxRecDepth 100000 in
theorem L231 : LY[231]? = some (.inr (0, 6, ng)) := rfl
set_option maxRecDepth 100000 in
theorem L232 : LY[232]? = some (.inl (3, [some (some (26)), some (some (33)), some (some (229)), some (some (233)), none, none, none, none, none, none])) := rfl
set_option maxRecDepth 100000 in
theorem L233 : LY[233]? = some (.inr (0, 256, ng)) := rfl
set_option maxRecDepth 100000 in
theorem L234 : LY[234]? = some (.inl (1, [some (some (33)), some (some (235)), none, some (some (236)), some (some (237)), none, none])) := rfl
set_option maxRecDepth 100000 in
theorem L235 : LY[235]? = some (.inr (0, 6, ng)) := rfl
set_option maxRecDepth 100000 in
theorem L236 : LY[236]? = some (.inr (0, 256, ng)) := rfl
set_option maxRecDepth 100000 in
theorem L237 : LY[237]? = some (.inr (0, 8, ng)) := rfl
set_option maxRecDepth 100000 in
theorem L238 : LY[238]? = some (.inl (0, [some (some (33)), none, none, some (some (239)), some (some (240)), some (some (241))])) := rfl
set_option maxRecDepth 100000 in
theorem L239 : LY[239]? = some (.inr (0, 8, ng)) := rfl
set_option maxRecDepth 100000 in
theorem L240 : LY[240]? = some (.inr (0, 8, ng)) := rfl
set_option maxRecDepth 100000 in
theorem L241 : LY[241]? = some (.inr (0, 8, ng)) := rfl
set_option maxRecDepth 100000 in
theorem L251 : LY[251]? = some (.inr (0, 3, ng)) := rfl
set_option maxRecDepth 100000 in
theorem L1088 : LY[1088]? = some (.inl (12, [none, some (some (1089)), some (some (1090)), some (some (1091)), some (some (1092)), some (some (1093)), some (some (1094)), some (some (1095)), some (some (1096)), some (some (1097)), some (some (1098)), some (some (1099)), some (some (1100)), some (some (1101)), some (some (1102)), some (some (1103)), some (some (1104)), some (some (1105)), some (some (1106)), some (some (1107)), some (some (1108)), some (some (1109)), some (some (1110)), some (some (1111)), some (some (1112)), some (some (1113)), some (some (1114)), some (some (1115)), some (some (1116)), some (some (1117)), some (some (1118)), none, none, none, none, none, none, none, none, none, none, some (some (1119)), some (some (1120)), some (some (1121)), some (some (1122)), some (some (1123)), some (some (1124)), some (some (1125)), some (some (1126)), some (some (1127)), some (some (1128)), none, none, some (some (1129)), some (some (1130)), none, none, none, some (some (1131)), some (some (1132)), some (some (1133)), none, none, some (some (1134)), some (some (1135)), some (some (1136)), none, some (some (1137)), some (some (1138)), some (some (1139)), some (some (1140)), none, none])) := rfl
set_option maxRecDepth 100000 in
theorem L1089 : LY[1089]? = some (.inr (0, 9, ng)) := rfl
set_option maxRecDepth 100000 in
theorem L1090 : LY[1090]? = some (.inr (0, 6, ng)) := rfl
set_option maxRecDepth 100000 in
theorem L1091 : LY[1091]? = some (.inr (0, 6, ng)) := rfl
set_option maxRecDepth 100000 in
theorem L1092 : LY[1092]? = some (.inr (0, 6, ng)) := rfl
set_option maxRecDepth 100000 in
theorem L1093 : LY[1093]? = some (.inr (0, 8, ng)) := rfl
set_option maxRecDepth 100000 in
theorem L1094 : LY[1094]? = some (.inr (0, 8, ng)) := rfl
set_option maxRecDepth 100000 in
theorem L1095 : LY[1095]? = some (.inr (0, 8, ng)) := rfl
set_option maxRecDepth 100000 in
theorem L1096 : LY[1096]? = some (.inr (0, 8, ng)) := rfl
set_option maxRecDepth 100000 in
theorem L1097 : LY[1097]? = some (.inr (0, 8, ng)) := rfl
set_option maxRecDepth 100000 in
theorem L1098 : LY[1098]? = some (.inr (0, 8, ng)) := rfl
set_option maxRecDepth 100000 in
theorem L1099 : LY[1099]? = some (.inr (0, 12, ng)) := rfl
set_option maxRecDepth 100000 in
theorem L1100 : LY[1100]? = some (.inr (0, 12, ng)) := rfl
set_option maxRecDepth 100000 in
theorem L1101 : LY[1101]? = some (.inr (0, 12, ng)) := rfl
set_option maxRecDepth 100000 in
theorem L1102 : LY[1102]? = some (.inr (0, 6, ng)) := rfl
set_option maxRecDepth 100000 in
theorem L1103 : LY[1103]? = some (.inr (0, 6, ng)) := rfl
set_option maxRecDepth 100000 in
theorem L1104 : LY[1104]? = some (.inr (0, 6, ng)) := rfl
set_option maxRecDepth 100000 in
theorem L1105 : LY[1105]? = some (.inr (0, 6, ng)) := rfl
set_option maxRecDepth 100000 in
theorem L1106 : LY[1106]? = some (.inr (0, 6, ng)) := rfl
set_option maxRecDepth 100000 in
theorem L1107 : LY[1107]? = some (.inr (0, 6, ng)) := rfl
set_option maxRecDepth 100000 in
theorem L1108 : LY[1108]? = some (.inr (0, 6, ng)) := rfl
set_option maxRecDepth 100000 in
theorem L1109 : LY[1109]? = some (.inr (0, 6, ng)) := rfl
set_option maxRecDepth 100000 in
theorem L1110 : LY[1110]? = some (.inr (0, 8, ng)) := rfl
set_option maxRecDepth 100000 in
theorem L1111 : LY[1111]? = some (.inr (0, 8, ng)) := rfl
set_option maxRecDepth 100000 in
theorem L1112 : LY[1112]? = some (.inr (0, 8, ng)) := rfl
set_option maxRecDepth 100000 in
theorem L1113 : LY[1113]? = some (.inr (0, 8, ng)) := rfl
set_option maxRecDepth 100000 in
theorem L1114 : LY[1114]? = some (.inr (0, 12, ng)) := rfl
set_option maxRecDepth 100000 in
theorem L1115 : LY[1115]? = some (.inr (0, 12, ng)) := rfl
set_option maxRecDepth 100000 in
theorem L1116 : LY[1116]? = some (.inr (0, 12, ng)) := rfl
set_option maxRecDepth 100000 in
theorem L1117 : LY[1117]? = some (.inr (0, 6, ng)) := rfl
set_option maxRecDepth 100000 in
theorem L1118 : LY[1118]? = some (.inr (0, 6, ng)) := rfl
set_option maxRecDepth 100000 in
theorem L1119 : LY[1119]? = some (.inr (1, 400, ng)) := rfl
set_option maxRecDepth 100000 in
theorem L1120 : LY[1120]? = some (.inr (0, 1800, ng)) := rfl
set_option maxRecDepth 100000 in
theorem L1121 : LY[1121]? = some (.inr (0, 1800, ng)) := rfl
set_option maxRecDepth 100000 in
theorem L1122 : LY[1122]? = some (.inr (0, 6, ng)) := rfl
set_option maxRecDepth 100000 in
theorem L1123 : LY[1123]? = some (.inr (0, 72, ng)) := rfl
set_option maxRecDepth 100000 in
theorem L1124 : LY[1124]? = some (.inr (0, 72, ng)) := rfl
set_option maxRecDepth 100000 in
theorem L1125 : LY[1125]? = some (.inr (0, 72, ng)) := rfl
set_option maxRecDepth 100000 in
theorem L1126 : LY[1126]? = some (.inr (0, 402, ng)) := rfl
set_option maxRecDepth 100000 in
theorem L1127 : LY[1127]? = some (.inr (3, 12, ng)) := rfl
set_option maxRecDepth 100000 in
theorem L1128 : LY[1128]? = some (.inr (3, 300, ng)) := rfl
set_option maxRecDepth 100000 in
theorem L1129 : LY[1129]? = some (.inr (0, 1540, ng)) := rfl
set_option maxRecDepth 100000 in
theorem L1130 : LY[1130]? = some (.inr (0, 1, ng)) := rfl
set_option maxRecDepth 100000 in
theorem L1131 : LY[1131]? = some (.inr (0, 9, ng)) := rfl
set_option maxRecDepth 100000 in
theorem L1132 : LY[1132]? = some (.inr (0, 8, ng)) := rfl
set_option maxRecDepth 100000 in
theorem L1133 : LY[1133]? = some (.inr (0, 7, ng)) := rfl
set_option maxRecDepth 100000 in
theorem L1134 : LY[1134]? = some (.inr (0, 9, ng)) := rfl
set_option maxRecDepth 100000 in
theorem L1135 : LY[1135]? = some (.inr (0, 8, ng)) := rfl
set_option maxRecDepth 100000 in
theorem L1136 : LY[1136]? = some (.inr (0, 8, ng)) := rfl
set_option maxRecDepth 100000 in
theorem L1137 : LY[1137]? = some (.inr (0, 8, ng)) := rfl
set_option maxRecDepth 100000 in
theorem L1138 : LY[1138]? = some (.inr (2, 256, ng)) := rfl
set_option maxRecDepth 100000 in
theorem L1139 : LY[1139]? = some (.inr (0, 9500, ng)) := rfl
set_option maxRecDepth 100000 in
theorem L1140 : LY[1140]? = some (.inr (2, 4, ng)) := rfl
set_option maxRecDepth 100000 in
theorem L226 : LY[226]? = some (.inr (4, 4, fun j => if j < 4 then some (252 + 200 * j) else none)) := rfl
set_option maxRecDepth 100000 in
theorem L228 : LY[228]? = some (.inr (5, 6, fun j => if j < 6 then some (1052 + 6 * j) else none)) := rfl
set_option maxRecDepth 100000 in
theorem V4 : isRiver 4 := ⟨rfl, rfl, rfl, rfl, rfl, rfl⟩
set_option maxRecDepth 100000 in
theorem V27 : isRiver 27 := ⟨rfl, rfl, rfl, rfl, rfl, rfl⟩
set_option maxRecDepth 100000 in
theorem V253 : isRiver 253 := ⟨rfl, rfl, rfl, rfl, rfl, rfl⟩
set_option maxRecDepth 100000 in
theorem V453 : isRiver 453 := ⟨rfl, rfl, rfl, rfl, rfl, rfl⟩
set_option maxRecDepth 100000 in
theorem V653 : isRiver 653 := ⟨rfl, rfl, rfl, rfl, rfl, rfl⟩
set_option maxRecDepth 100000 in
theorem V853 : isRiver 853 := ⟨rfl, rfl, rfl, rfl, rfl, rfl⟩
set_option maxRecDepth 100000 in
theorem R10 : isRaft 10 4 := ⟨rfl, rfl, rfl, rfl, rfl, rfl, rfl, rfl, rfl, V4⟩
set_option maxRecDepth 100000 in
theorem R33 : isRaft 33 27 := ⟨rfl, rfl, rfl, rfl, rfl, rfl, rfl, rfl, rfl, V27⟩
set_option maxRecDepth 100000 in
theorem R242 : isRaft 242 27 := ⟨rfl, rfl, rfl, rfl, rfl, rfl, rfl, rfl, rfl, V27⟩
set_option maxRecDepth 100000 in
theorem R259 : isRaft 259 253 := ⟨rfl, rfl, rfl, rfl, rfl, rfl, rfl, rfl, rfl, V253⟩
set_option maxRecDepth 100000 in
theorem R459 : isRaft 459 453 := ⟨rfl, rfl, rfl, rfl, rfl, rfl, rfl, rfl, rfl, V453⟩
set_option maxRecDepth 100000 in
theorem R659 : isRaft 659 653 := ⟨rfl, rfl, rfl, rfl, rfl, rfl, rfl, rfl, rfl, V653⟩
set_option maxRecDepth 100000 in
theorem R859 : isRaft 859 853 := ⟨rfl, rfl, rfl, rfl, rfl, rfl, rfl, rfl, rfl, V853⟩
set_option maxRecDepth 100000 in
theorem U20 : isRule 20 := ⟨rfl, rfl, rfl, rfl, rfl, rfl⟩
set_option maxRecDepth 100000 in
theorem U1052 : isRule 1052 := ⟨rfl, rfl, rfl, rfl, rfl, rfl⟩
set_option maxRecDepth 100000 in
theorem U1058 : isRule 1058 := ⟨rfl, rfl, rfl, rfl, rfl, rfl⟩
set_option maxRecDepth 100000 in
theorem U1064 : isRule 1064 := ⟨rfl, rfl, rfl, rfl, rfl, rfl⟩
set_option maxRecDepth 100000 in
theorem U1070 : isRule 1070 := ⟨rfl, rfl, rfl, rfl, rfl, rfl⟩
set_option maxRecDepth 100000 in
theorem U1076 : isRule 1076 := ⟨rfl, rfl, rfl, rfl, rfl, rfl⟩
set_option maxRecDepth 100000 in
theorem U1082 : isRule 1082 := ⟨rfl, rfl, rfl, rfl, rfl, rfl⟩
set_option maxRecDepth 100000 in
theorem S26_p : ∀ j, j < 20 → isRaft (26 + 20 + 9 * j) (26 + 1)
  | 0, _ => ⟨rfl, rfl, rfl, rfl, rfl, rfl, rfl, rfl, rfl, V27⟩
  | 1, _ => ⟨rfl, rfl, rfl, rfl, rfl, rfl, rfl, rfl, rfl, V27⟩
  | 2, _ => ⟨rfl, rfl, rfl, rfl, rfl, rfl, rfl, rfl, rfl, V27⟩
  | 3, _ => ⟨rfl, rfl, rfl, rfl, rfl, rfl, rfl, rfl, rfl, V27⟩
  | 4, _ => ⟨rfl, rfl, rfl, rfl, rfl, rfl, rfl, rfl, rfl, V27⟩
  | 5, _ => ⟨rfl, rfl, rfl, rfl, rfl, rfl, rfl, rfl, rfl, V27⟩
  | 6, _ => ⟨rfl, rfl, rfl, rfl, rfl, rfl, rfl, rfl, rfl, V27⟩
  | 7, _ => ⟨rfl, rfl, rfl, rfl, rfl, rfl, rfl, rfl, rfl, V27⟩
  | 8, _ => ⟨rfl, rfl, rfl, rfl, rfl, rfl, rfl, rfl, rfl, V27⟩
  | 9, _ => ⟨rfl, rfl, rfl, rfl, rfl, rfl, rfl, rfl, rfl, V27⟩
  | 10, _ => ⟨rfl, rfl, rfl, rfl, rfl, rfl, rfl, rfl, rfl, V27⟩
  | 11, _ => ⟨rfl, rfl, rfl, rfl, rfl, rfl, rfl, rfl, rfl, V27⟩
  | 12, _ => ⟨rfl, rfl, rfl, rfl, rfl, rfl, rfl, rfl, rfl, V27⟩
  | 13, _ => ⟨rfl, rfl, rfl, rfl, rfl, rfl, rfl, rfl, rfl, V27⟩
  | 14, _ => ⟨rfl, rfl, rfl, rfl, rfl, rfl, rfl, rfl, rfl, V27⟩
  | 15, _ => ⟨rfl, rfl, rfl, rfl, rfl, rfl, rfl, rfl, rfl, V27⟩
  | 16, _ => ⟨rfl, rfl, rfl, rfl, rfl, rfl, rfl, rfl, rfl, V27⟩
  | 17, _ => ⟨rfl, rfl, rfl, rfl, rfl, rfl, rfl, rfl, rfl, V27⟩
  | 18, _ => ⟨rfl, rfl, rfl, rfl, rfl, rfl, rfl, rfl, rfl, V27⟩
  | 19, _ => ⟨rfl, rfl, rfl, rfl, rfl, rfl, rfl, rfl, rfl, V27⟩
  | j + 20, h => absurd h (by omega)
set_option maxRecDepth 100000 in
theorem S26 : isState 26 := ⟨rfl, V27, R33, rfl, rfl, rfl, rfl, S26_p⟩
set_option maxRecDepth 100000 in
theorem S252_p : ∀ j, j < 20 → isRaft (252 + 20 + 9 * j) (252 + 1)
  | 0, _ => ⟨rfl, rfl, rfl, rfl, rfl, rfl, rfl, rfl, rfl, V253⟩
  | 1, _ => ⟨rfl, rfl, rfl, rfl, rfl, rfl, rfl, rfl, rfl, V253⟩
  | 2, _ => ⟨rfl, rfl, rfl, rfl, rfl, rfl, rfl, rfl, rfl, V253⟩
  | 3, _ => ⟨rfl, rfl, rfl, rfl, rfl, rfl, rfl, rfl, rfl, V253⟩
  | 4, _ => ⟨rfl, rfl, rfl, rfl, rfl, rfl, rfl, rfl, rfl, V253⟩
  | 5, _ => ⟨rfl, rfl, rfl, rfl, rfl, rfl, rfl, rfl, rfl, V253⟩
  | 6, _ => ⟨rfl, rfl, rfl, rfl, rfl, rfl, rfl, rfl, rfl, V253⟩
  | 7, _ => ⟨rfl, rfl, rfl, rfl, rfl, rfl, rfl, rfl, rfl, V253⟩
  | 8, _ => ⟨rfl, rfl, rfl, rfl, rfl, rfl, rfl, rfl, rfl, V253⟩
  | 9, _ => ⟨rfl, rfl, rfl, rfl, rfl, rfl, rfl, rfl, rfl, V253⟩
  | 10, _ => ⟨rfl, rfl, rfl, rfl, rfl, rfl, rfl, rfl, rfl, V253⟩
  | 11, _ => ⟨rfl, rfl, rfl, rfl, rfl, rfl, rfl, rfl, rfl, V253⟩
  | 12, _ => ⟨rfl, rfl, rfl, rfl, rfl, rfl, rfl, rfl, rfl, V253⟩
  | 13, _ => ⟨rfl, rfl, rfl, rfl, rfl, rfl, rfl, rfl, rfl, V253⟩
  | 14, _ => ⟨rfl, rfl, rfl, rfl, rfl, rfl, rfl, rfl, rfl, V253⟩
  | 15, _ => ⟨rfl, rfl, rfl, rfl, rfl, rfl, rfl, rfl, rfl, V253⟩
  | 16, _ => ⟨rfl, rfl, rfl, rfl, rfl, rfl, rfl, rfl, rfl, V253⟩
  | 17, _ => ⟨rfl, rfl, rfl, rfl, rfl, rfl, rfl, rfl, rfl, V253⟩
  | 18, _ => ⟨rfl, rfl, rfl, rfl, rfl, rfl, rfl, rfl, rfl, V253⟩
  | 19, _ => ⟨rfl, rfl, rfl, rfl, rfl, rfl, rfl, rfl, rfl, V253⟩
  | j + 20, h => absurd h (by omega)
set_option maxRecDepth 100000 in
theorem S252 : isState 252 := ⟨rfl, V253, R259, rfl, rfl, rfl, rfl, S252_p⟩
set_option maxRecDepth 100000 in
theorem S452_p : ∀ j, j < 20 → isRaft (452 + 20 + 9 * j) (452 + 1)
  | 0, _ => ⟨rfl, rfl, rfl, rfl, rfl, rfl, rfl, rfl, rfl, V453⟩
  | 1, _ => ⟨rfl, rfl, rfl, rfl, rfl, rfl, rfl, rfl, rfl, V453⟩
  | 2, _ => ⟨rfl, rfl, rfl, rfl, rfl, rfl, rfl, rfl, rfl, V453⟩
  | 3, _ => ⟨rfl, rfl, rfl, rfl, rfl, rfl, rfl, rfl, rfl, V453⟩
  | 4, _ => ⟨rfl, rfl, rfl, rfl, rfl, rfl, rfl, rfl, rfl, V453⟩
  | 5, _ => ⟨rfl, rfl, rfl, rfl, rfl, rfl, rfl, rfl, rfl, V453⟩
  | 6, _ => ⟨rfl, rfl, rfl, rfl, rfl, rfl, rfl, rfl, rfl, V453⟩
  | 7, _ => ⟨rfl, rfl, rfl, rfl, rfl, rfl, rfl, rfl, rfl, V453⟩
  | 8, _ => ⟨rfl, rfl, rfl, rfl, rfl, rfl, rfl, rfl, rfl, V453⟩
  | 9, _ => ⟨rfl, rfl, rfl, rfl, rfl, rfl, rfl, rfl, rfl, V453⟩
  | 10, _ => ⟨rfl, rfl, rfl, rfl, rfl, rfl, rfl, rfl, rfl, V453⟩
  | 11, _ => ⟨rfl, rfl, rfl, rfl, rfl, rfl, rfl, rfl, rfl, V453⟩
  | 12, _ => ⟨rfl, rfl, rfl, rfl, rfl, rfl, rfl, rfl, rfl, V453⟩
  | 13, _ => ⟨rfl, rfl, rfl, rfl, rfl, rfl, rfl, rfl, rfl, V453⟩
  | 14, _ => ⟨rfl, rfl, rfl, rfl, rfl, rfl, rfl, rfl, rfl, V453⟩
  | 15, _ => ⟨rfl, rfl, rfl, rfl, rfl, rfl, rfl, rfl, rfl, V453⟩
  | 16, _ => ⟨rfl, rfl, rfl, rfl, rfl, rfl, rfl, rfl, rfl, V453⟩
  | 17, _ => ⟨rfl, rfl, rfl, rfl, rfl, rfl, rfl, rfl, rfl, V453⟩
  | 18, _ => ⟨rfl, rfl, rfl, rfl, rfl, rfl, rfl, rfl, rfl, V453⟩
  | 19, _ => ⟨rfl, rfl, rfl, rfl, rfl, rfl, rfl, rfl, rfl, V453⟩
  | j + 20, h => absurd h (by omega)
set_option maxRecDepth 100000 in
theorem S452 : isState 452 := ⟨rfl, V453, R459, rfl, rfl, rfl, rfl, S452_p⟩
set_option maxRecDepth 100000 in
theorem S652_p : ∀ j, j < 20 → isRaft (652 + 20 + 9 * j) (652 + 1)
  | 0, _ => ⟨rfl, rfl, rfl, rfl, rfl, rfl, rfl, rfl, rfl, V653⟩
  | 1, _ => ⟨rfl, rfl, rfl, rfl, rfl, rfl, rfl, rfl, rfl, V653⟩
  | 2, _ => ⟨rfl, rfl, rfl, rfl, rfl, rfl, rfl, rfl, rfl, V653⟩
  | 3, _ => ⟨rfl, rfl, rfl, rfl, rfl, rfl, rfl, rfl, rfl, V653⟩
  | 4, _ => ⟨rfl, rfl, rfl, rfl, rfl, rfl, rfl, rfl, rfl, V653⟩
  | 5, _ => ⟨rfl, rfl, rfl, rfl, rfl, rfl, rfl, rfl, rfl, V653⟩
  | 6, _ => ⟨rfl, rfl, rfl, rfl, rfl, rfl, rfl, rfl, rfl, V653⟩
  | 7, _ => ⟨rfl, rfl, rfl, rfl, rfl, rfl, rfl, rfl, rfl, V653⟩
  | 8, _ => ⟨rfl, rfl, rfl, rfl, rfl, rfl, rfl, rfl, rfl, V653⟩
  | 9, _ => ⟨rfl, rfl, rfl, rfl, rfl, rfl, rfl, rfl, rfl, V653⟩
  | 10, _ => ⟨rfl, rfl, rfl, rfl, rfl, rfl, rfl, rfl, rfl, V653⟩
  | 11, _ => ⟨rfl, rfl, rfl, rfl, rfl, rfl, rfl, rfl, rfl, V653⟩
  | 12, _ => ⟨rfl, rfl, rfl, rfl, rfl, rfl, rfl, rfl, rfl, V653⟩
  | 13, _ => ⟨rfl, rfl, rfl, rfl, rfl, rfl, rfl, rfl, rfl, V653⟩
  | 14, _ => ⟨rfl, rfl, rfl, rfl, rfl, rfl, rfl, rfl, rfl, V653⟩
  | 15, _ => ⟨rfl, rfl, rfl, rfl, rfl, rfl, rfl, rfl, rfl, V653⟩
  | 16, _ => ⟨rfl, rfl, rfl, rfl, rfl, rfl, rfl, rfl, rfl, V653⟩
  | 17, _ => ⟨rfl, rfl, rfl, rfl, rfl, rfl, rfl, rfl, rfl, V653⟩
  | 18, _ => ⟨rfl, rfl, rfl, rfl, rfl, rfl, rfl, rfl, rfl, V653⟩
  | 19, _ => ⟨rfl, rfl, rfl, rfl, rfl, rfl, rfl, rfl, rfl, V653⟩
  | j + 20, h => absurd h (by omega)
set_option maxRecDepth 100000 in
theorem S652 : isState 652 := ⟨rfl, V653, R659, rfl, rfl, rfl, rfl, S652_p⟩
set_option maxRecDepth 100000 in
theorem S852_p : ∀ j, j < 20 → isRaft (852 + 20 + 9 * j) (852 + 1)
  | 0, _ => ⟨rfl, rfl, rfl, rfl, rfl, rfl, rfl, rfl, rfl, V853⟩
  | 1, _ => ⟨rfl, rfl, rfl, rfl, rfl, rfl, rfl, rfl, rfl, V853⟩
  | 2, _ => ⟨rfl, rfl, rfl, rfl, rfl, rfl, rfl, rfl, rfl, V853⟩
  | 3, _ => ⟨rfl, rfl, rfl, rfl, rfl, rfl, rfl, rfl, rfl, V853⟩
  | 4, _ => ⟨rfl, rfl, rfl, rfl, rfl, rfl, rfl, rfl, rfl, V853⟩
  | 5, _ => ⟨rfl, rfl, rfl, rfl, rfl, rfl, rfl, rfl, rfl, V853⟩
  | 6, _ => ⟨rfl, rfl, rfl, rfl, rfl, rfl, rfl, rfl, rfl, V853⟩
  | 7, _ => ⟨rfl, rfl, rfl, rfl, rfl, rfl, rfl, rfl, rfl, V853⟩
  | 8, _ => ⟨rfl, rfl, rfl, rfl, rfl, rfl, rfl, rfl, rfl, V853⟩
  | 9, _ => ⟨rfl, rfl, rfl, rfl, rfl, rfl, rfl, rfl, rfl, V853⟩
  | 10, _ => ⟨rfl, rfl, rfl, rfl, rfl, rfl, rfl, rfl, rfl, V853⟩
  | 11, _ => ⟨rfl, rfl, rfl, rfl, rfl, rfl, rfl, rfl, rfl, V853⟩
  | 12, _ => ⟨rfl, rfl, rfl, rfl, rfl, rfl, rfl, rfl, rfl, V853⟩
  | 13, _ => ⟨rfl, rfl, rfl, rfl, rfl, rfl, rfl, rfl, rfl, V853⟩
  | 14, _ => ⟨rfl, rfl, rfl, rfl, rfl, rfl, rfl, rfl, rfl, V853⟩
  | 15, _ => ⟨rfl, rfl, rfl, rfl, rfl, rfl, rfl, rfl, rfl, V853⟩
  | 16, _ => ⟨rfl, rfl, rfl, rfl, rfl, rfl, rfl, rfl, rfl, V853⟩
  | 17, _ => ⟨rfl, rfl, rfl, rfl, rfl, rfl, rfl, rfl, rfl, V853⟩
  | 18, _ => ⟨rfl, rfl, rfl, rfl, rfl, rfl, rfl, rfl, rfl, V853⟩
  | 19, _ => ⟨rfl, rfl, rfl, rfl, rfl, rfl, rfl, rfl, rfl, V853⟩
  | j + 20, h => absurd h (by omega)
set_option maxRecDepth 100000 in
theorem S852 : isState 852 := ⟨rfl, V853, R859, rfl, rfl, rfl, rfl, S852_p⟩
theorem isRules : ∀ j, j < 6 → isRule (1052 + 6 * j)
  | 0, _ => U1052
  | 1, _ => U1058
  | 2, _ => U1064
  | 3, _ => U1070
  | 4, _ => U1076
  | 5, _ => U1082
  | j + 6, h => absurd h (by omega)
theorem isStates : ∀ j, j < 4 → isState (252 + 200 * j)
  | 0, _ => S252
  | 1, _ => S452
  | 2, _ => S652
  | 3, _ => S852
  | j + 4, h => absurd h (by omega)
