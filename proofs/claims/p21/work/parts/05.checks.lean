/-! part 05: the other checks -/
set_option maxRecDepth 100000 in
theorem zx_ckM_0 : (zx_ml_0.zip (zx_mc.drop 0)).all (fun q => zx_ckm q.1 q.2) = true := by decide +kernel
set_option maxRecDepth 100000 in
theorem zx_ckM_1 : (zx_ml_1.zip (zx_mc.drop 40)).all (fun q => zx_ckm q.1 q.2) = true := by decide +kernel
set_option maxRecDepth 100000 in
theorem zx_ckM_2 : (zx_ml_2.zip (zx_mc.drop 80)).all (fun q => zx_ckm q.1 q.2) = true := by decide +kernel
set_option maxRecDepth 100000 in
theorem zx_ckM_3 : (zx_ml_3.zip (zx_mc.drop 120)).all (fun q => zx_ckm q.1 q.2) = true := by decide +kernel
set_option maxRecDepth 100000 in
theorem zx_ckM_4 : (zx_ml_4.zip (zx_mc.drop 160)).all (fun q => zx_ckm q.1 q.2) = true := by decide +kernel
set_option maxRecDepth 100000 in
theorem zx_ckM_5 : (zx_ml_5.zip (zx_mc.drop 200)).all (fun q => zx_ckm q.1 q.2) = true := by decide +kernel
set_option maxRecDepth 100000 in
theorem zx_ml_len : zx_ml.length = 221 ∧ zx_mc.length = 221 := by decide +kernel
def zx_cka {α : Type} (l : List (List α)) (f : Nat → α → Bool) : Bool := l.zipIdx.all (fun q => q.1.all (f q.2))
def zx_ckF (o : Nat) (e : Nat × Nat × Nat × Nat × Nat) : Bool := decide (e.2.1 < 9) && (decide (e.2.2.1 < zx_fn e.2.1) && (match e.2.2.2.1 with
  | 0 => zx_inG e.2.2.2.2 (.fieldLink (zx_o o) e.1 (zx_T8 e.2.1 e.2.2.1).1 (zx_T8 e.2.1 e.2.2.1).2.1 (zx_T8 e.2.1 e.2.2.1).2.2.1)
  | 1 => zx_inN e.2.2.2.2 (.fieldLinkNest (zx_o o) e.1 (zx_T8 e.2.1 e.2.2.1).1 (zx_T8 e.2.1 e.2.2.1).2.1 (zx_T8 e.2.1 e.2.2.1).2.2.1 zx_host)
  | _ => false))
set_option maxRecDepth 100000 in
theorem zx_ckF_all : zx_cka zx_lF zx_ckF = true := by decide +kernel
def zx_ckL (o : Nat) (e : Nat × Nat × Nat × Nat) : Bool := match e.2.2.1 with
  | 0 => zx_inG e.2.2.2 (.methodLink (zx_o o) e.1 (zx_my (zx_m e.2.1)))
  | 1 => zx_inN e.2.2.2 (.methodLinkNest (zx_o o) e.1 (zx_my (zx_m e.2.1)) zx_host)
  | _ => false
set_option maxRecDepth 100000 in
theorem zx_ckL_all : zx_cka zx_lM zx_ckL = true := by decide +kernel
set_option maxRecDepth 100000 in
theorem zx_ckC_all : zx_cka zx_lC (fun o e => zx_inG e.2.2 (.classLink (zx_o o) e.1 (zx_R9 e.2.1)) && decide (e.2.1 < 9)) = true := by decide +kernel
set_option maxRecDepth 100000 in
theorem zx_ckI_all : zx_cka zx_lI (fun o e => zx_inG e.2.2 (.constant (zx_o o) e.1 e.2.1)) = true := by decide +kernel
set_option maxRecDepth 100000 in
theorem zx_ckJ_all : zx_cka zx_lL (fun o e => zx_inG e.2.2 (.constantLong (zx_o o) e.1 e.2.1)) = true := by decide +kernel
def zx_sx (g : Nat) : String × String × String := (zx_sn[g]?).getD ("", "", "")
set_option maxRecDepth 100000 in
theorem zx_ckG_all : zx_cka zx_lG (fun o e => match e.2.2.1 with
  | 0 => zx_inG e.2.2.2 (.fieldLink (zx_o o) e.1 (zx_sx e.2.1).1 (zx_sx e.2.1).2.1 (zx_sx e.2.1).2.2)
  | 1 => zx_inN e.2.2.2 (.fieldLinkNest (zx_o o) e.1 (zx_sx e.2.1).1 (zx_sx e.2.1).2.1 (zx_sx e.2.1).2.2 zx_host)
  | _ => false) = true := by decide +kernel
set_option maxRecDepth 100000 in
theorem zx_ckA_all : zx_cka zx_lA (fun o e => zx_inG e.2 (.methodLink (zx_o o) e.1 arraycopyName)) = true := by decide +kernel
set_option maxRecDepth 100000 in
theorem zx_ckO_all : zx_cka zx_lO (fun o e => zx_inG e.2 (.methodLink (zx_o o) e.1 Lib.objectInit)) = true := by decide +kernel
set_option maxRecDepth 100000 in
theorem zx_ckK_all : zx_cka zx_lK (fun o e => match e.2.1 with
  | 0 => zx_inG e.2.2 (.fieldLink (zx_o o) e.1 "java/lang/String" "value" "[B")
  | 1 => zx_inG e.2.2 (.fieldLink (zx_o o) e.1 "java/lang/String" "coder" "B")
  | _ => false) = true := by decide +kernel
set_option maxRecDepth 100000 in
theorem zx_ckP : (List.range 9).all (fun i => match zx_pI[i]? with
  | some q => zx_inG q.1 (.instantiable (zx_R9 i) (zx_fn i)) && zx_inG q.2 (.initialized (zx_R9 i))
  | none => false) = true := by decide +kernel
set_option maxRecDepth 100000 in
theorem zx_ckX : (zx_inG 153 (.arrayClass .int) && (zx_inG 355 (.arrayClass .long) && (zx_inG 90 (.initialized "java/lang/System") && (zx_inG 439 (.native arraycopyName) && (zx_inG 438 (.static arraycopyName) && (zx_inG 103 (.instanceMethod Lib.objectInit) && zx_inG 104 (.code Lib.objectInit ⟨#[0xb1]⟩ 1 none))))))) = true := by decide +kernel
def zx_inL : List Nat → List Cond → Bool
  | p :: r, w :: q => zx_inG p w && zx_inL r q
  | [], [] => true
  | _, _ => false
theorem zx_inL_ok : ∀ {r : List Nat} {q : List Cond}, zx_inL r q = true → q.all (fun w => decide (w ∈ zx_G)) = true
  | p :: r, w :: q, h => by
    unfold zx_inL at h
    rw [Bool.and_eq_true] at h
    rw [List.all_cons, Bool.and_eq_true]
    exact ⟨decide_eq_true (zx_inG_mem h.1), zx_inL_ok h.2⟩
  | [], [], _ => rfl
  | [], _ :: _, h => by cases h
  | _ :: _, [], h => by cases h
/-- where each class's words stand -/
def zx_pU : List (List Nat) := [[325, 327, 329, 331, 333], [230, 232, 234, 236], [261, 263, 265, 267, 269, 271, 273, 275], [348, 350, 352], [298, 300, 302, 304, 306, 308, 310], [188, 190, 192, 194, 196, 198, 200, 202, 204, 206, 208, 210, 212], [140, 142, 144, 146, 148, 150], [367, 369, 371, 373, 375, 377, 379, 381, 383, 385, 387], [1029, 1031, 1033, 1035, 1037, 1039, 1041, 1043, 1045, 1047, 1049, 1051, 1053, 1055, 1057, 1059, 1061, 1063, 1065, 1067, 1069, 1071, 1073, 1075, 1077, 1079, 1081, 1083, 1085, 1087, 1089, 1091, 1093, 1095, 1097, 1099, 1101, 1103, 1105, 1107, 1109, 1111, 1113, 1115, 1117, 1119, 1121, 1123, 1125, 1127, 1129, 1131, 1133]]
set_option maxRecDepth 100000 in
theorem zx_ckV : (List.range 9).all (fun i => zx_inL ((zx_pU[i]?).getD []) (u_ws (zx_R9 i) (zx_T8 i) (zx_fn i))) = true := by decide +kernel
theorem zx_ckU : (List.range 9).all (fun i => (u_ws (zx_R9 i) (zx_T8 i) (zx_fn i)).all (fun w => decide (w ∈ zx_G))) = true := by
  rw [List.all_eq_true]
  intro i hi
  exact zx_inL_ok (List.all_eq_true.mp zx_ckV i hi)
set_option maxRecDepth 100000 in
theorem zx_ckS : zx_st.all (fun q => zx_at q.2.2 (.stringRef RX4 q.2.1 q.1)) = true := by decide +kernel
set_option maxRecDepth 100000 in
theorem zx_ckY : zx_at 106 (.arrayOver (.object RX3)) = true ∧ zx_at 246 (.arrayOver (.object RX5)) = true := by decide +kernel
