/-! part 10: calls -/
section
variable {p : Program} {l : Launch} {e : Env} {R : Room} {s : State} {m : MethodId} {args : Array Value} {below : List Frame} {meth : Method} {c : Code} {Q : State → Prop}
variable {fx : Nat → Nat → Nat} {vq : Value} {ct : Nat → ClassId} {ad : Nat → Nat} {A : Nat → Prop} {sc : zx_Sc} {D : va_G} {t : zx_MT} {d : Nat}
variable {pc nc ns : Nat} {L : List (Option zx_V)} {S : List zx_V} {h : List zx_C} {st : zx_S}
theorem zx_nw_k {w : Cond} (h : w ∈ zx_nw) : zx_isN w = true := (List.mem_filter.mp h).2
theorem zx_St_go {u U : State} {H : Heap} (hvm : u.vm.Alike U.vm) (h1 : ∀ w ∈ zx_nw, va_Nw w U) (h2 : ∀ i : Nat, ∀ q : String × Nat × Nat, zx_st[i]? = some q → vk_R RX4 q.2.1 q.1 (fx 2 i) U) (hS : zx_St fx vq A sc u H) : zx_St fx vq A sc U H := by
  obtain ⟨-, a2, a3, -, a5, a6, a7, a8, a9, a10⟩ := hS
  exact ⟨h1, va_AO.moved hvm a2, va_AO.moved hvm a3, h2, vk_S.moved hvm a5, fun i hi => ⟨va_Z.moved hvm (a6 i hi).1, va_T.moved hvm (a6 i hi).2⟩, va_Z.moved hvm a7, va_Z.moved hvm a8, a9, fun q e => ⟨va_X.moved hvm (a10 q e).1, (a10 q e).2⟩⟩
theorem zx_St_same {u U : State} {H : Heap} (hv : U.vm = u.vm) (hS : zx_St fx vq A sc u H) : zx_St fx vq A sc U H := by
  refine zx_St_go (by rw [hv]; exact Vm.Alike.refl _) (fun w hw => ?_) (fun i q hi => vk_R.same hv (hS.2.2.2.1 i q hi)) hS
  have h1 := zx_nw_k hw
  have h2 := hS.1 w hw
  cases w <;> first | exact va_Nw.same rfl hv.symm h2 | (exact absurd h1 (by intro z; cases z))
theorem zx_St_warm {u U : State} {H : Heap} (hW : u.WarmedH U.vm) (hS : zx_St fx vq A sc u H) : zx_St fx vq A sc U H := by
  refine zx_St_go hW.alike (fun w hw => ?_) (fun i q hi => vk_R.warm hW (hS.2.2.2.1 i q hi)) hS
  have h1 := zx_nw_k hw
  have h2 := hS.1 w hw
  cases w <;> first | exact va_Nw.warmF hW h2 | exact va_Nw.warmM hW h2 | (exact absurd h1 (by intro z; cases z))
theorem zx_St_kept {U : State} {H H1 : Heap} (hq : ∀ a : Nat, a < H.size → ¬ A a → H1[a]? = H[a]?) (hz : H.size ≤ H1.size) (hS : zx_St fx vq A sc U H) : zx_St fx vq A sc U H1 := by
  obtain ⟨a1, a2, a3, a4, a5, a6, a7, a8, a9, a10⟩ := hS
  exact ⟨a1, a2, a3, a4, vk_S.kept a5 hq, fun i hi => ⟨va_Z.kept (a6 i hi).1 hq, va_T.kept (a6 i hi).2 hq⟩, va_Z.kept a7 hq, va_Z.kept a8 hq, a9, fun q e => ⟨va_X.kept (a10 q e).1 (hq _ (a10 q e).2.1 (a10 q e).2.2), Nat.lt_of_lt_of_le (a10 q e).2.1 hz, (a10 q e).2.2⟩⟩
theorem zx_St_none {U : State} {H : Heap} (hS : zx_St fx vq A sc U H) : zx_St fx vq A none U H := by
  obtain ⟨a1, a2, a3, a4, a5, a6, a7, a8, a9, -⟩ := hS
  exact ⟨a1, a2, a3, a4, a5, a6, a7, a8, a9, fun q e => by cases e⟩
/-- what a method finds -/
def zx_Wd (fx : Nat → Nat → Nat) (vq : Value) (ct : Nat → ClassId) (A : Nat → Prop) (sc : zx_Sc) (D : va_G) (ad : Nat → Nat) (h : List zx_C) (U : State) : Prop :=
  va_P D zx_cl (zx_w fx vq ct ad h) U.heap ∧ va_D A (zx_w fx vq ct ad h) ∧ va_K D zx_cl (zx_tys ct) U ∧ (∀ q : Nat, U.heap.size ≤ q → A q) ∧ zx_St fx vq A sc U U.heap
/-- what a method leaves -/
def zx_Qc (fx : Nat → Nat → Nat) (vq : Value) (ct : Nat → ClassId) (A : Nat → Prop) (D : va_G) (ad : Nat → Nat) (h : List zx_C) (r : zx_R) : Array Value → State → Outcome → State → Prop := fun _ st oc t =>
  (∃ ad' : Nat → Nat, oc = .returned (r.1.map (zx_c fx vq ad')) ∧ zx_ext ad h ad' r.2.1 ∧ va_P D zx_cl (zx_w fx vq ct ad' r.2.1) t.heap ∧ va_D A (zx_w fx vq ct ad' r.2.1)) ∧ va_F A st t
def zx_ws (k : Nat) : List Cond := Cond.code (zx_my (zx_m k)) (zx_mb (zx_m k)) (zx_mn (zx_m k)) (zx_mr (zx_m k)) :: zx_G
def zx_rm (d : Nat) (r : zx_R) : Room := { frames := d + 1, cells := r.2.2.1, slots := r.2.2.2, locals := 40 * d + 40 }
def zx_Met (l : Launch) (fx : Nat → Nat → Nat) (vq : Value) (ct : Nat → ClassId) (A : Nat → Prop) (sc : zx_Sc) (D : va_G) (d k : Nat) (as : List zx_V) (h : List zx_C) (r : zx_R) (ad : Nat → Nat) : Prop :=
  Met l (zx_my (zx_m k)) (zx_ws k) (zx_rm d r) (va_Pc (as.map (zx_c fx vq ad)) (zx_Wd fx vq ct A sc D ad h)) (zx_Qc fx vq ct A D ad h r) r.2.2.1 r.2.2.2 A
theorem zx_blind {av : List Value} {ad : Nat → Nat} {h : List zx_C} : FrameBlind (va_Pc av (zx_Wd fx vq ct A sc D ad h)) := fun a U g mk q => ⟨q.1, q.2.1, q.2.2.1, va_K.moved (u := U) (U := U.calling g mk a) (Vm.Alike.refl U.vm) q.2.2.2.1, q.2.2.2.2.1, zx_St_same (u := U) (U := U.calling g mk a) rfl q.2.2.2.2.2⟩
theorem zx_in {H : Heap} {locs : List Loc} (X : zx_Cx p R s m args meth c fx vq ct A sc D t d) (hP : va_P D zx_cl (zx_w fx vq ct ad h) H) (hD : va_D A (zx_w fx vq ct ad h)) (hS : va_S A s.heap H locs) (as : List zx_V) : ∀ U : State, U.heap = H → s.WarmedH U.vm → va_Pc (as.map (zx_c fx vq ad)) (zx_Wd fx vq ct A none D ad h) (as.map (zx_c fx vq ad)).toArray U := by
  obtain ⟨-, -, -, -, -, hK, hA, hSt, -, -⟩ := X
  intro U hU hW
  refine ⟨rfl, by rw [hU]; exact hP, hD, va_K.moved hW.alike hK, fun q hq => hA q (Nat.le_trans hS.1 (by rw [hU] at hq; exact hq)), ?_⟩
  rw [hU]
  exact zx_St_none (zx_St_kept hS.2.1 hS.1 (zx_St_warm hW hSt))
theorem zx_call {r : zx_R} {rest st0 : List Value} {ls : Array Slot} {a : Array Value} {H : Heap} {locs : List Loc} (hr : va_Run p l e R s m args below meth c H locs nc ns r.2.2.1 r.2.2.2 (F0 m pc ls st0) rest (zx_Qc fx vq ct A D ad h r a) A) (hS : va_S A s.heap H locs)
    (kk : ∀ (ad' : Nat → Nat) (H1 : Heap) (locs1 : List Loc), zx_ext ad h ad' r.2.1 → va_P D zx_cl (zx_w fx vq ct ad' r.2.1) H1 → va_D A (zx_w fx vq ct ad' r.2.1) → va_S A s.heap H1 locs1 → W p l e R s m args below meth c H1 locs1 (nc + r.2.2.1) (ns + r.2.2.2) Q (F0 m (pc + 3) ls ((r.1.map (zx_c fx vq ad')).toList ++ rest))) : W p l e R s m args below meth c H locs nc ns Q (F0 m pc ls st0) := by
  intro T hT X
  obtain ⟨v, st₀, t, T', L, h0, X', hL, e1, e2, ⟨⟨ad', hv, hx, hP, hD⟩, hz, hk⟩, st⟩ := hr T hT X
  have hv' : v = r.1.map (zx_c fx vq ad') := by
    injection hv
  subst hv'
  rw [h0] at hz hk
  obtain ⟨t2, a1, b1⟩ := kk ad' T'.heap (locs ++ L) hx (by rw [e1]; exact hP) hD
    ⟨Nat.le_trans hS.1 (by rw [e1]; exact hz), fun q h1 h2 => by rw [e1, hk q (Nat.lt_of_lt_of_le h1 hS.1) h2]; exact hS.2.1 q h1 h2, fun q hq => by
      rcases List.mem_append.mp hq with h | h
      · exact hS.2.2 q h
      · exact hL q h⟩ T' rfl X'
  exact ⟨t2, st t2 a1, b1⟩
theorem zx_retI {ro : Option zx_R} {r : List zx_V} (h1 : zx_ret pc L r h nc ns ro = some (.inl st)) : ∃ q : zx_R, ro = some q ∧ (q.2.1.length = h.length ∨ zx_ok L r h = true) ∧ st = (pc + 3, L, q.1.toList ++ r, q.2.1, nc + q.2.2.1, ns + q.2.2.2) := by
  unfold zx_ret at h1
  split at h1
  · rename_i v h' mc ms
    split at h1
    · rename_i g
      exact ⟨(v, h', mc, ms), rfl, g, zx_Ni h1⟩
    · cases h1
  · cases h1
/-- a call's end, put back beside the caller's own values -/
theorem zx_back {q : zx_R} {r : List zx_V} {st0 : List Value} {ls : Array Slot} {a : Array Value} {H : Heap} {locs : List Loc} (hor : q.2.1.length = h.length ∨ zx_ok L r h = true)
    (hr : va_Run p l e R s m args below meth c H locs nc ns q.2.2.1 q.2.2.2 (F0 m pc ls st0) (r.map (zx_c fx vq ad)) (zx_Qc fx vq ct A D ad h q a) A) (hS : va_S A s.heap H locs) (hl : lv_has ls (zx_mn t) (zx_l fx vq ad L))
    (K : ∀ ad', zx_ext ad h ad' q.2.1 → zx_Go p l e R s m args below meth c Q fx vq ct A D t ad' (pc + 3, L, q.1.toList ++ r, q.2.1, nc + q.2.2.1, ns + q.2.2.2)) : W p l e R s m args below meth c H locs nc ns Q (F0 m pc ls st0) := by
  refine zx_call hr hS (fun ad' H1 locs1 hx hP1 hD1 hS1 => ?_)
  have hb : r.map (zx_c fx vq ad') = r.map (zx_c fx vq ad) ∧ ∀ z ∈ zx_l fx vq ad' L, z ∈ zx_l fx vq ad L := by
    rcases hor with e1 | e1
    · rw [hx.2.2 e1]
      exact ⟨rfl, fun _ z => z⟩
    · obtain ⟨o1, o2, -⟩ := zx_okL e1
      exact ⟨zx_S_ad hx.2.1 o2, zx_l_ad hx.2.1 o1⟩
  have k : W p l e R s m args below meth c H1 locs1 (nc + q.2.2.1) (ns + q.2.2.2) Q (F0 m (pc + 3) ls ((q.1.toList ++ r).map (zx_c fx vq ad'))) := K ad' hx H1 locs1 ls hP1 hD1 hS1 (zx_l_sub hl hb.2)
  rw [List.map_append, hb.1] at k
  have e2 : q.1.toList.map (zx_c fx vq ad') = (q.1.map (zx_c fx vq ad')).toList := by cases q.1 <;> rfl
  rw [e2] at k
  exact k
theorem zx_gi {ws : List Cond} (hw : ∀ w ∈ ws, w ∈ zx_G) : GoodIn zx_G ws := fun w h => ⟨hw w h, good_of_word (List.mem_filter.mp (hw w h)).2⟩
theorem zx_zip {α β : Type} {x : α} : ∀ {a : List α} {b : List β}, x ∈ a → a.length ≤ b.length → ∃ y, (x, y) ∈ a.zip b
  | [], _, h, _ => absurd h List.not_mem_nil
  | _ :: _, [], _, hl => absurd hl (by simp)
  | z :: a, y :: b, h, hl => by
    rcases List.mem_cons.mp h with rfl | h
    · exact ⟨y, by simp⟩
    · obtain ⟨w, hw⟩ := zx_zip h (b := b) (by simpa using hl)
      exact ⟨w, by simp [hw]⟩
theorem zx_mk_chunk {a : List zx_MT} {n : Nat} (hc : (a.zip (zx_mc.drop n)).all (fun q => zx_ckm q.1 q.2) = true) (hl : a.length ≤ (zx_mc.drop n).length) : ∀ x ∈ a, ∃ q, zx_ckm x q = true := by
  intro x hx
  obtain ⟨y, hy⟩ := zx_zip hx hl
  exact ⟨y, List.all_eq_true.mp hc (x, y) hy⟩
set_option maxRecDepth 100000 in
theorem zx_mok : ∀ x ∈ zx_ml, ∃ q, zx_ckm x q = true := by
  show ∀ x ∈ zx_ml_0 ++ zx_ml_1 ++ zx_ml_2 ++ zx_ml_3 ++ zx_ml_4 ++ zx_ml_5, _
  exact List.forall_mem_append.mpr ⟨List.forall_mem_append.mpr ⟨List.forall_mem_append.mpr ⟨List.forall_mem_append.mpr ⟨List.forall_mem_append.mpr ⟨zx_mk_chunk zx_ckM_0 (by decide +kernel), zx_mk_chunk zx_ckM_1 (by decide +kernel)⟩, zx_mk_chunk zx_ckM_2 (by decide +kernel)⟩, zx_mk_chunk zx_ckM_3 (by decide +kernel)⟩, zx_mk_chunk zx_ckM_4 (by decide +kernel)⟩, zx_mk_chunk zx_ckM_5 (by decide +kernel)⟩
theorem zx_m_mem {k : Nat} (hk : k < 221) : zx_m k ∈ zx_ml := by
  unfold zx_m
  rw [List.getElem?_eq_getElem (by rw [zx_ml_len.1]; exact hk)]
  exact List.getElem_mem _
theorem zx_ws_in {k : Nat} (hk : k < 221) : ∀ w ∈ zx_ws k, w ∈ zx_G := by
  intro w hw
  rcases List.mem_cons.mp hw with rfl | hw
  · exact zx_kc _ (zx_m_mem hk)
  · exact hw
/-- what a program has decided of a method -/
theorem zx_mfacts {k : Nat} (hk : k < 221) : Cond.initialized (zx_my (zx_m k)).cls ∈ zx_G ∧ zx_o (zx_mo (zx_m k)) = (zx_my (zx_m k)).cls ∧ zx_mn (zx_m k) ≤ 20 ∧ (zx_my (zx_m k)).cls ≠ "java/lang/invoke/MethodHandle" ∧ (zx_my (zx_m k)).cls ≠ "java/lang/invoke/VarHandle" ∧ (parseMethodDescriptor (zx_my (zx_m k)).desc).map (fun d => d.parameters.length) = some (zx_mp (zx_m k)) ∧
    (zx_mk (zx_m k) = 0 → Cond.instanceMethod (zx_my (zx_m k)) ∈ zx_G ∧ Cond.selects (zx_my (zx_m k)).cls (zx_my (zx_m k)) (zx_my (zx_m k)) ∈ zx_G ∧ plainName (zx_my (zx_m k)).cls = true) ∧
    (zx_mk (zx_m k) = 1 → Cond.static (zx_my (zx_m k)) ∈ zx_G ∧ plainName (zx_my (zx_m k)).cls = true) ∧
    (zx_mk (zx_m k) = 2 → Cond.instanceMethod (zx_my (zx_m k)) ∈ zx_G ∧ (zx_my (zx_m k)).name = "<init>" ∧ zx_mr (zx_m k) = none ∧ plainName (zx_my (zx_m k)).cls = true) ∧
    (zx_mk (zx_m k) = 3 → Cond.static Lib.Math.max.name ∈ zx_G ∧ zx_my (zx_m k) = Lib.Math.max.name ∧ Cond.initialized "java/lang/Math" ∈ zx_G) ∧
    (zx_mk (zx_m k) = 4 → Cond.static Lib.Math.min.name ∈ zx_G ∧ zx_my (zx_m k) = Lib.Math.min.name ∧ Cond.initialized "java/lang/Math" ∈ zx_G) := by
  obtain ⟨q, hq⟩ := zx_mok _ (zx_m_mem hk)
  unfold zx_ckm at hq
  simp only [Bool.and_eq_true, decide_eq_true_eq] at hq
  obtain ⟨q1, q2, -, q3, q4, q5, q6, q7⟩ := hq
  refine ⟨zx_inG_mem q1, q2, q3, q4, q5, q6, ?_, ?_, ?_, ?_, ?_⟩
  · intro z; rw [z] at q7; simp only [Bool.and_eq_true] at q7
    exact ⟨zx_inG_mem q7.1, zx_inG_mem q7.2.1, q7.2.2⟩
  · intro z; rw [z] at q7; simp only [Bool.and_eq_true] at q7
    exact ⟨zx_inG_mem q7.1, q7.2⟩
  · intro z; rw [z] at q7; simp only [Bool.and_eq_true, decide_eq_true_eq] at q7
    exact ⟨zx_inG_mem q7.1, q7.2.1, q7.2.2.1, q7.2.2.2⟩
  · intro z; rw [z] at q7; simp only [Bool.and_eq_true, decide_eq_true_eq] at q7
    exact ⟨zx_inG_mem q7.1, q7.2.1, zx_inG_mem q7.2.2⟩
  · intro z; rw [z] at q7; simp only [Bool.and_eq_true, decide_eq_true_eq] at q7
    exact ⟨zx_inG_mem q7.1, q7.2.1, zx_inG_mem q7.2.2⟩
end
