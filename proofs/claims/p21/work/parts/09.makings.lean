/-! part 09: what a step leaves as it is; makings; a call; ends -/
section
variable {p : Program} {l : Launch} {e : Env} {R : Room} {s : State} {m : MethodId} {args : Array Value} {below : List Frame} {meth : Method} {c : Code} {Q : State → Prop}
variable {fx : Nat → Nat → Nat} {vq : Value} {ct : Nat → ClassId} {ad : Nat → Nat} {A : Nat → Prop} {sc : zx_Sc} {D : va_G} {t : zx_MT} {d : Nat}
variable {pc nc ns : Nat} {L : List (Option zx_V)} {S : List zx_V} {h : List zx_C} {st : zx_S}
/-- as many locals, as many cells, nothing made -/
def zx_sm (L : List (Option zx_V)) (h : List zx_C) (nc ns : Nat) (st : zx_S) : Prop := st.2.1.length = L.length ∧ st.2.2.2.1.length = h.length ∧ st.2.2.2.2.1 = nc ∧ st.2.2.2.2.2 = ns
theorem zx_k_ld {ty i n : Nat} (h1 : zx_ld ty i n pc L S h nc ns = some (.inl st)) : zx_sm L h nc ns st := by
  unfold zx_ld at h1
  repeat' split at h1
  all_goals first | (cases h1; done) | (obtain rfl := zx_Ni h1; simp [zx_sm, zx_cl1_len])
theorem zx_k_sto {ty i n : Nat} (h1 : zx_sto ty i n pc L S h nc ns = some (.inl st)) : zx_sm L h nc ns st := by
  unfold zx_sto at h1
  repeat' split at h1
  all_goals first | (cases h1; done) | (obtain rfl := zx_Ni h1; simp [zx_sm, zx_cl1_len])
theorem zx_k_stl {i n : Nat} (h1 : zx_stl i n pc L S h nc ns = some (.inl st)) : zx_sm L h nc ns st := by
  unfold zx_stl at h1
  repeat' split at h1
  all_goals first | (cases h1; done) | (obtain rfl := zx_Ni h1; simp [zx_sm, zx_cl1_len])
theorem zx_k_iinc {i : Nat} {z : Int} (h1 : zx_iinc i z pc L S h nc ns = some (.inl st)) : zx_sm L h nc ns st := by
  unfold zx_iinc at h1
  repeat' split at h1
  all_goals first | (cases h1; done) | (obtain rfl := zx_Ni h1; simp [zx_sm, zx_cl1_len])
theorem zx_k_bin {ins : Instr} (h1 : zx_bin ins pc L S h nc ns = some (.inl st)) : zx_sm L h nc ns st := by
  unfold zx_bin at h1
  repeat' split at h1
  all_goals first | (cases h1; done) | (obtain rfl := zx_Ni h1; simp [zx_sm, zx_cl1_len])
theorem zx_k_un {ins : Instr} (h1 : zx_un ins pc L S h nc ns = some (.inl st)) : zx_sm L h nc ns st := by
  unfold zx_un at h1
  repeat' split at h1
  all_goals first | (cases h1; done) | (obtain rfl := zx_Ni h1; simp [zx_sm, zx_cl1_len])
theorem zx_k_lng {ins : Instr} (h1 : zx_lng ins pc L S h nc ns = some (.inl st)) : zx_sm L h nc ns st := by
  unfold zx_lng at h1
  repeat' split at h1
  all_goals first | (cases h1; done) | (obtain rfl := zx_Ni h1; simp [zx_sm, zx_cl1_len])
theorem zx_k_stk {ins : Instr} (h1 : zx_stk ins pc L S h nc ns = some (.inl st)) : zx_sm L h nc ns st := by
  unfold zx_stk at h1
  repeat' split at h1
  all_goals first | (cases h1; done) | (obtain rfl := zx_Ni h1; simp [zx_sm, zx_cl1_len])
theorem zx_k_J {off : Int} (h1 : zx_J pc off L S h nc ns = some (.inl st)) : zx_sm L h nc ns st := by
  unfold zx_J at h1
  repeat' split at h1
  all_goals first | (cases h1; done) | (obtain rfl := zx_Ni h1; simp [zx_sm, zx_cl1_len])
theorem zx_k_br {b : Bool} {off : Int} (h1 : zx_br b off pc L S h nc ns = some (.inl st)) : zx_sm L h nc ns st := by
  unfold zx_br at h1
  repeat' split at h1
  all_goals first | (cases h1; done) | (obtain rfl := zx_Ni h1; simp [zx_sm, zx_cl1_len])
theorem zx_k_if1 {cn : ClassFile.Cond} {off : Int} (h1 : zx_if1 cn off pc L S h nc ns = some (.inl st)) : zx_sm L h nc ns st := by
  unfold zx_if1 at h1
  repeat' split at h1
  all_goals first | (cases h1; done) | exact zx_k_br h1 | (obtain rfl := zx_Ni h1; simp [zx_sm, zx_cl1_len])
theorem zx_k_if2 {cn : ClassFile.Cond} {off : Int} (h1 : zx_if2 cn off pc L S h nc ns = some (.inl st)) : zx_sm L h nc ns st := by
  unfold zx_if2 at h1
  repeat' split at h1
  all_goals first | (cases h1; done) | exact zx_k_br h1 | (obtain rfl := zx_Ni h1; simp [zx_sm, zx_cl1_len])
theorem zx_k_tsw {dflt lo hi : Int} {offs : Array Int} (h1 : zx_tsw dflt lo hi offs pc L S h nc ns = some (.inl st)) : zx_sm L h nc ns st := by
  unfold zx_tsw at h1
  repeat' split at h1
  all_goals first | (cases h1; done) | exact zx_k_J h1 | (obtain rfl := zx_Ni h1; simp [zx_sm, zx_cl1_len])
theorem zx_k_lsw {dflt : Int} {ps : Array (Int × Int)} (h1 : zx_lsw dflt ps pc L S h nc ns = some (.inl st)) : zx_sm L h nc ns st := by
  unfold zx_lsw at h1
  repeat' split at h1
  all_goals first | (cases h1; done) | exact zx_k_J h1 | (obtain rfl := zx_Ni h1; simp [zx_sm, zx_cl1_len])
theorem zx_k_gf {o ix : Nat} (h1 : zx_gf o ix pc L S h nc ns = some (.inl st)) : zx_sm L h nc ns st := by
  unfold zx_gf at h1
  repeat' split at h1
  all_goals first | (cases h1; done) | (obtain rfl := zx_Ni h1; simp [zx_sm, zx_cl1_len])
theorem zx_k_pf {o kd ix : Nat} (h1 : zx_pf o kd ix pc L S h nc ns = some (.inl st)) : zx_sm L h nc ns st := by
  unfold zx_pf at h1
  repeat' split at h1
  all_goals first | (cases h1; done) | (obtain rfl := zx_Ni h1; simp [zx_sm, zx_cl1_len])
theorem zx_k_gs {o ix : Nat} (h1 : zx_gs o ix pc L S h nc ns = some (.inl st)) : zx_sm L h nc ns st := by
  unfold zx_gs at h1
  repeat' split at h1
  all_goals first | (cases h1; done) | (obtain rfl := zx_Ni h1; simp [zx_sm, zx_cl1_len])
theorem zx_k_al  (h1 : zx_al sc pc L S h nc ns = some (.inl st)) : zx_sm L h nc ns st := by
  unfold zx_al at h1
  repeat' split at h1
  all_goals first | (cases h1; done) | (obtain rfl := zx_Ni h1; simp [zx_sm, zx_cl1_len])
theorem zx_k_ial  (h1 : zx_ial sc pc L S h nc ns = some (.inl st)) : zx_sm L h nc ns st := by
  unfold zx_ial at h1
  repeat' split at h1
  all_goals first | (cases h1; done) | (obtain rfl := zx_Ni h1; simp [zx_sm, zx_cl1_len])
theorem zx_k_ias  (h1 : zx_ias pc L S h nc ns = some (.inl st)) : zx_sm L h nc ns st := by
  unfold zx_ias at h1
  repeat' split at h1
  all_goals first | (cases h1; done) | (obtain rfl := zx_Ni h1; simp [zx_sm, zx_cl1_len])
theorem zx_k_lal  (h1 : zx_lal pc L S h nc ns = some (.inl st)) : zx_sm L h nc ns st := by
  unfold zx_lal at h1
  repeat' split at h1
  all_goals first | (cases h1; done) | (obtain rfl := zx_Ni h1; simp [zx_sm, zx_cl1_len])
theorem zx_k_las  (h1 : zx_las pc L S h nc ns = some (.inl st)) : zx_sm L h nc ns st := by
  unfold zx_las at h1
  repeat' split at h1
  all_goals first | (cases h1; done) | (obtain rfl := zx_Ni h1; simp [zx_sm, zx_cl1_len])
theorem zx_k_bal  (h1 : zx_bal pc L S h nc ns = some (.inl st)) : zx_sm L h nc ns st := by
  unfold zx_bal at h1
  repeat' split at h1
  all_goals first | (cases h1; done) | (obtain rfl := zx_Ni h1; simp [zx_sm, zx_cl1_len])
theorem zx_k_aal  (h1 : zx_aal pc L S h nc ns = some (.inl st)) : zx_sm L h nc ns st := by
  unfold zx_aal at h1
  repeat' split at h1
  all_goals first | (cases h1; done) | (obtain rfl := zx_Ni h1; simp [zx_sm, zx_cl1_len])
theorem zx_k_aas  (h1 : zx_aas pc L S h nc ns = some (.inl st)) : zx_sm L h nc ns st := by
  unfold zx_aas at h1
  repeat' split at h1
  all_goals first | (cases h1; done) | (obtain rfl := zx_Ni h1; simp [zx_sm, zx_cl1_len])
theorem zx_k_lc {o ix n : Nat} (h1 : zx_lc o ix n pc L S h nc ns = some (.inl st)) : zx_sm L h nc ns st := by
  unfold zx_lc at h1
  repeat' split at h1
  all_goals first | (cases h1; done) | (obtain rfl := zx_Ni h1; simp [zx_sm, zx_cl1_len])
theorem zx_k_lc2 {o ix : Nat} (h1 : zx_lc2 o ix pc L S h nc ns = some (.inl st)) : zx_sm L h nc ns st := by
  unfold zx_lc2 at h1
  repeat' split at h1
  all_goals first | (cases h1; done) | (obtain rfl := zx_Ni h1; simp [zx_sm, zx_cl1_len])
theorem zx_k_ac  (h1 : zx_ac pc L S h nc ns = some (.inl st)) : zx_sm L h nc ns st := by
  unfold zx_ac at h1
  repeat' split at h1
  all_goals first | (cases h1; done) | (obtain rfl := zx_Ni h1; simp [zx_sm, zx_cl1_len])
/-- the addresses behind a step -/
def zx_ext (ad : Nat → Nat) (h : List zx_C) (ad' : Nat → Nat) (h' : List zx_C) : Prop := h.length ≤ h'.length ∧ (∀ i, i < h.length → ad' i = ad i) ∧ (h'.length = h.length → ad' = ad)
theorem zx_ext_sm {h' : List zx_C} (e : h'.length = h.length) : zx_ext ad h ad h' := ⟨by omega, fun _ _ => rfl, fun _ => rfl⟩
theorem zx_ext_tr {ad1 ad2 : Nat → Nat} {h1 h2 : List zx_C} (a : zx_ext ad h ad1 h1) (b : zx_ext ad1 h1 ad2 h2) : zx_ext ad h ad2 h2 := by
  obtain ⟨a1, a2, a3⟩ := a
  obtain ⟨b1, b2, b3⟩ := b
  refine ⟨by omega, fun i hi => ?_, fun q => ?_⟩
  · rw [b2 i (by omega), a2 i hi]
  · rw [b3 (by omega), a3 (by omega)]
theorem zx_df_ok {ci : Nat} (h : ci < 9) (k : Nat) (fx : Nat → Nat → Nat) (vq : Value) (ad : Nat → Nat) : zx_c fx vq ad (zx_df (zx_ft ci k)) = defaultValue (zx_ft ci k) := by
  rcases (show ci = 0 ∨ ci = 1 ∨ ci = 2 ∨ ci = 3 ∨ ci = 4 ∨ ci = 5 ∨ ci = 6 ∨ ci = 7 ∨ ci = 8 by omega) with rfl | rfl | rfl | rfl | rfl | rfl | rfl | rfl | rfl
  · show zx_c fx vq ad (zx_df (tyX0 k)) = defaultValue (tyX0 k); unfold tyX0; split <;> rfl
  · show zx_c fx vq ad (zx_df (tyX1 k)) = defaultValue (tyX1 k); unfold tyX1; split <;> rfl
  · show zx_c fx vq ad (zx_df (tyX2 k)) = defaultValue (tyX2 k); unfold tyX2; split <;> rfl
  · show zx_c fx vq ad (zx_df (tyX3 k)) = defaultValue (tyX3 k); unfold tyX3; split <;> rfl
  · show zx_c fx vq ad (zx_df (tyX4 k)) = defaultValue (tyX4 k); unfold tyX4; split <;> rfl
  · show zx_c fx vq ad (zx_df (tyX5 k)) = defaultValue (tyX5 k); unfold tyX5; split <;> rfl
  · show zx_c fx vq ad (zx_df (tyX6 k)) = defaultValue (tyX6 k); unfold tyX6; split <;> rfl
  · show zx_c fx vq ad (zx_df (tyX7 k)) = defaultValue (tyX7 k); unfold tyX7; split <;> rfl
  · show zx_c fx vq ad (zx_df (tyX8 k)) = defaultValue (tyX8 k); unfold tyX8; split <;> rfl
theorem zx_okL (h1 : zx_ok L S h = true) : L.all (zx_vo h.length) = true ∧ S.all (zx_vl h.length) = true ∧ h.all (zx_vc h.length) = true := by
  unfold zx_ok at h1
  rw [Bool.and_eq_true, Bool.and_eq_true] at h1
  exact h1
theorem zx_up_lt {n q : Nat} : ∀ i, i < n → va_up ad n q i = ad i := fun i hi => by unfold va_up; rw [if_neg (by omega)]
theorem zx_up_eq {n q : Nat} : va_up ad n q n = q := by unfold va_up; rw [if_pos rfl]
theorem zx_ext_new {q : Nat} {x : zx_C} : zx_ext ad h (va_up ad h.length q) (h ++ [x]) := ⟨by simp, zx_up_lt, fun z => by simp at z⟩
/-- behind a making: the state with the new cell -/
theorem zx_made {q : Nat} {x : zx_C} {n mc ms : Nat} {r : List zx_V} {H1 : Heap} {locs1 : List Loc} {ls : Array Slot} (hok : zx_ok L r h = true) {en : va_E} (hen : zx_e fx vq ct (va_up ad h.length q) x = en)
    (K : ∀ ad', zx_ext ad h ad' (h ++ [x]) → zx_Go p l e R s m args below meth c Q fx vq ct A D t ad' (pc + n, L, .inr (.inr (1, h.length)) :: r, h ++ [x], mc, ms))
    (hP1 : va_P D zx_cl (zx_w fx vq ct ad h ++ [(q, en)]) H1) (hD1 : va_D A (zx_w fx vq ct ad h ++ [(q, en)])) (hS1 : va_S A s.heap H1 locs1) (hl : lv_has ls (zx_mn t) (zx_l fx vq ad L)) :
    W p l e R s m args below meth c H1 locs1 mc ms Q (F0 m (pc + n) ls (.ref q :: r.map (zx_c fx vq ad))) := by
  obtain ⟨o1, o2, o3⟩ := zx_okL hok
  have k := K (va_up ad h.length q) zx_ext_new H1 locs1 ls (by rw [zx_w_app o3, hen]; exact hP1) (by rw [zx_w_app o3, hen]; exact hD1) hS1 (zx_l_sub hl (zx_l_ad zx_up_lt o1))
  have k2 : W p l e R s m args below meth c H1 locs1 mc ms Q (F0 m (pc + n) ls (.ref (va_up ad h.length q h.length) :: r.map (zx_c fx vq (va_up ad h.length q)))) := k
  rw [zx_up_eq, zx_S_ad zx_up_lt o2] at k2
  exact k2
theorem zx_s_new (X : zx_Cx p R s m args meth c fx vq ct A sc D t d) {ix : Nat} (hdg : decode (zx_mb t) pc = .ok (.new ix, 3)) (h1 : zx_new (zx_mo t) ix pc L S h nc ns = some (.inl st)) (hR : st.2.2.2.2.1 ≤ R.cells ∧ st.2.2.2.2.2 ≤ R.slots)
    (K : ∀ ad', zx_ext ad h ad' st.2.2.2.1 → zx_Go p l e R s m args below meth c Q fx vq ct A D t ad' st) : zx_Go p l e R s m args below meth c Q fx vq ct A D t ad (pc, L, S, h, nc, ns) := by
  obtain ⟨hx, hb, -, hown, hts, hK, hA, hSt, -, hin⟩ := X
  unfold zx_new at h1
  split at h1
  · rename_i ci pp e1
    have hC := zx_cka_use zx_ckC_all e1
    rw [Bool.and_eq_true] at hC
    split at h1
    · rename_i g
      obtain ⟨hci, hok⟩ := g
      obtain rfl := zx_Ni h1
      have hpI := List.all_eq_true.mp zx_ckP ci (List.mem_range.mpr hci)
      split at hpI
      · rename_i q9 e9
        rw [Bool.and_eq_true] at hpI
        intro H locs ls hP hD hS hl
        refine va_new (fs := ((List.range (zx_fn ci)).map (fun k => zx_df (zx_ft ci k))).map (zx_c fx vq ad)) hx hb hts (zx_hin hci) (zx_ft ci) (zx_ok9 hci).1 hown (hts _ (zx_inG_mem hC.1)) (hts _ (zx_inG_mem hpI.1)) (hts _ (zx_inG_mem hpI.2)) hK hP hD hS hA (zx_clk hci) ?_ hR.1 hR.2 hdg ?_
        · intro j hj
          show _ = (((List.range (zx_fn ci)).map (fun k => zx_df (zx_ft ci k))).map (zx_c fx vq ad)).getD j .null
          rw [List.getD_eq_getElem?_getD, List.getElem?_map, List.getElem?_map, List.getElem?_range hj]
          exact (zx_df_ok hci j fx vq ad).symm
        · intro q H1 hP1 hD1 hS1
          refine zx_made hok ?_ K hP1 hD1 hS1 hl
          show Sum.inr (ci, ((List.range (zx_fn ci)).map (fun k => zx_df (zx_ft ci k))).map _) = Sum.inr (ci, ((List.range (zx_fn ci)).map (fun k => zx_df (zx_ft ci k))).map _)
          rw [List.map_map, List.map_map]
          have e : (zx_c fx vq (va_up ad h.length q) ∘ fun k => zx_df (zx_ft ci k)) = (zx_c fx vq ad ∘ fun k => zx_df (zx_ft ci k)) := by
            funext k
            exact (zx_df_ok hci k fx vq _).trans (zx_df_ok hci k fx vq _).symm
          rw [e]
      · cases hpI
    · cases h1
  · cases h1
theorem zx_ca {cA : ClassId} {ty : FieldType} {i : Nat} (hK : va_K D zx_cl (zx_tys ct ++ [(cA, ty)]) s) (hi : (zx_tys ct)[i]? = some (ct i, ty)) (hi4 : i < 4) : cA = ct i := by
  have h1 := (hK.2 4 (cA, ty) (by rfl)).2
  have h2 := (hK.2 i (ct i, ty) (by rw [List.getElem?_append_left (by exact hi4)]; exact hi)).2
  cases ty with
  | object C =>
    obtain ⟨_, _, _, _, _, a⟩ := h1
    obtain ⟨_, _, _, _, _, b⟩ := h2
    exact Option.some.inj (a.symm.trans b)
  | _ => exact Option.some.inj ((show s.vm.findClass _ = some cA from h1).symm.trans h2)
theorem zx_rep0 {α : Type} {d0 : α} (n : Nat) : (fun j : Nat => (List.replicate n d0).getD j d0) = fun _ => d0 := by
  funext j
  rw [List.getD_eq_getElem?_getD, List.getElem?_replicate]
  split <;> rfl
theorem zx_s_na (X : zx_Cx p R s m args meth c fx vq ct A sc D t d) {ty : ArrayType} (hdg : decode (zx_mb t) pc = .ok (.newarray ty, 2)) (h1 : zx_na ty pc L S h nc ns = some (.inl st)) (hR : st.2.2.2.2.1 ≤ R.cells ∧ st.2.2.2.2.2 ≤ R.slots)
    (K : ∀ ad', zx_ext ad h ad' st.2.2.2.1 → zx_Go p l e R s m args below meth c Q fx vq ct A D t ad' st) : zx_Go p l e R s m args below meth c Q fx vq ct A D t ad (pc, L, S, h, nc, ns) := by
  obtain ⟨hx, hb, -, hown, hts, hK, hA, hSt, -, hin⟩ := X
  have hX := zx_ckX
  simp only [Bool.and_eq_true] at hX
  unfold zx_na at h1
  split at h1
  · rename_i x r
    split at h1
    · rename_i g
      obtain ⟨g1, g2, hok⟩ := g
      split at h1
      · obtain rfl := zx_Ni h1
        intro H locs ls hP hD hS hl
        refine va_newa (atype := .int) (ty := .int) (a0 := (x.toNatClampNeg, .inl (fun _ => 0))) hx hb (hts _ (zx_inG_mem hX.1)) rfl hK hP hD hS hA (fun _ => rfl) g1 rfl (by show _ * 4 ≤ _; omega) hR.1 hR.2 hdg ?_
        intro q cA H1 hK1 hP1 hD1 hS1
        have e := zx_ca hK1 (i := 0) rfl (by decide)
        subst e
        exact zx_made hok (by show Sum.inl (ct 0, (List.replicate x.toNatClampNeg (0 : Int32)).length, Sum.inl (fun j : Nat => (List.replicate x.toNatClampNeg (0 : Int32)).getD j 0)) = _; rw [zx_rep0, List.length_replicate]) K hP1 hD1 hS1 hl
      · obtain rfl := zx_Ni h1
        intro H locs ls hP hD hS hl
        refine va_newa (atype := .long) (ty := .long) (a0 := (x.toNatClampNeg, .inr (.inl (fun _ => 0)))) hx hb (hts _ (zx_inG_mem hX.2.1)) rfl hK hP hD hS hA (fun _ => rfl) g1 rfl (by show _ * 8 ≤ _; omega) hR.1 hR.2 hdg ?_
        intro q cA H1 hK1 hP1 hD1 hS1
        have e := zx_ca hK1 (i := 1) rfl (by decide)
        subst e
        exact zx_made hok (by show Sum.inl (ct 1, (List.replicate x.toNatClampNeg (0 : Int64)).length, Sum.inr (Sum.inl (fun j : Nat => (List.replicate x.toNatClampNeg (0 : Int64)).getD j 0))) = _; rw [zx_rep0, List.length_replicate]) K hP1 hD1 hS1 hl
      · cases h1
    · cases h1
  · cases h1
theorem zx_s_an (X : zx_Cx p R s m args meth c fx vq ct A sc D t d) {ix : Nat} (hdg : decode (zx_mb t) pc = .ok (.anewarray ix, 3)) (h1 : zx_an (zx_mo t) ix pc L S h nc ns = some (.inl st)) (hR : st.2.2.2.2.1 ≤ R.cells ∧ st.2.2.2.2.2 ≤ R.slots)
    (K : ∀ ad', zx_ext ad h ad' st.2.2.2.1 → zx_Go p l e R s m args below meth c Q fx vq ct A D t ad' st) : zx_Go p l e R s m args below meth c Q fx vq ct A D t ad (pc, L, S, h, nc, ns) := by
  obtain ⟨hx, hb, -, hown, hts, hK, hA, hSt, -, hin⟩ := X
  have hrep : ∀ (n : Nat) (ad2 : Nat → Nat), (fun j : Nat => (((List.replicate n (none : Option Nat))[j]?).getD none).map ad2) = fun _ => none := by
    intro n ad2
    funext j
    rw [List.getElem?_replicate]
    split <;> rfl
  unfold zx_an at h1
  split at h1
  · rename_i x r
    split at h1
    · rename_i g
      obtain ⟨g1, g2, hok⟩ := g
      split at h1
      · rename_i e1
        have hC := zx_cka_use zx_ckC_all e1
        rw [Bool.and_eq_true] at hC
        obtain rfl := zx_Ni h1
        intro H locs ls hP hD hS hl
        refine va_newq (C := RX3) hx hb hown (hts _ (zx_inG_mem hC.1)) hSt.2.1 hK hP hD hS hA g1 rfl (by omega) hR.1 hR.2 hdg ?_
        intro q cA H1 hK1 hP1 hD1 hS1
        have e := zx_ca hK1 (i := 2) rfl (by decide)
        subst e
        exact zx_made hok (by show Sum.inl (ct 2, (List.replicate x.toNatClampNeg (none : Option Nat)).length, _) = _; rw [hrep, List.length_replicate]) K hP1 hD1 hS1 hl
      · rename_i e1
        have hC := zx_cka_use zx_ckC_all e1
        rw [Bool.and_eq_true] at hC
        obtain rfl := zx_Ni h1
        intro H locs ls hP hD hS hl
        refine va_newq (C := RX5) hx hb hown (hts _ (zx_inG_mem hC.1)) hSt.2.2.1 hK hP hD hS hA g1 rfl (by omega) hR.1 hR.2 hdg ?_
        intro q cA H1 hK1 hP1 hD1 hS1
        have e := zx_ca hK1 (i := 3) rfl (by decide)
        subst e
        exact zx_made hok (by show Sum.inl (ct 3, (List.replicate x.toNatClampNeg (none : Option Nat)).length, _) = _; rw [hrep, List.length_replicate]) K hP1 hD1 hS1 hl
      · cases h1
    · cases h1
  · cases h1
end
