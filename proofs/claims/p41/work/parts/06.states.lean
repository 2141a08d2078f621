section
/-! part 06: the machine's states and the small machine's: what a value, a cell, a row of locals stands for -/
def zx_c (fx : Nat → Nat → Nat) (vq : Value) (ad : Nat → Nat) : zx_V → Value
  | .inl x => .int x
  | .inr (.inl y) => .long y
  | .inr (.inr (0, _)) => .null
  | .inr (.inr (1, i)) => .ref (ad i)
  | .inr (.inr (6, _)) => vq
  | .inr (.inr (t, i)) => .ref (fx t i)
def zx_e (fx : Nat → Nat → Nat) (vq : Value) (ct : Nat → ClassId) (ad : Nat → Nat) : zx_C → va_E
  | .inl (ci, fs) => .inr (ci, fs.map (zx_c fx vq ad))
  | .inr (t, .inl f) => .inl (ct t, f.length, .inl (fun j : Nat => f.getD j 0))
  | .inr (t, .inr (.inl f)) => .inl (ct t, f.length, .inr (.inl (fun j : Nat => f.getD j 0)))
  | .inr (t, .inr (.inr f)) => .inl (ct t, f.length, .inr (.inr (.inr (.inr (fun j : Nat => ((f[j]?).getD none).map ad)))))
def zx_w (fx : Nat → Nat → Nat) (vq : Value) (ct : Nat → ClassId) (ad : Nat → Nat) (h : List zx_C) : va_W := h.mapIdx (fun i c => (ad i, zx_e fx vq ct ad c))
def zx_l (fx : Nat → Nat → Nat) (vq : Value) (ad : Nat → Nat) (L : List (Option zx_V)) : List (Nat × Value) := L.zipIdx.filterMap (fun q => q.1.map (fun v => (q.2, zx_c fx vq ad v)))
def zx_ty : Nat → FieldType
  | 0 => .int
  | 1 => .long
  | 2 => .object RX3
  | _ => .object RX5
def zx_tys (ct : Nat → ClassId) : List (ClassId × FieldType) := [(ct 0, .int), (ct 1, .long), (ct 2, .object RX3), (ct 3, .object RX5)]
theorem zx_tyk {ct : Nat → ClassId} {t : Nat} (h : t < 4) : (zx_tys ct)[t]? = some (ct t, zx_ty t) := by
  rcases (show t = 0 ∨ t = 1 ∨ t = 2 ∨ t = 3 by omega) with rfl | rfl | rfl | rfl <;> rfl
theorem zx_clk {ci : Nat} (h : ci < 9) : zx_cl[ci]? = some (zx_R9 ci, zx_T8 ci, zx_fn ci) := by
  rcases (show ci = 0 ∨ ci = 1 ∨ ci = 2 ∨ ci = 3 ∨ ci = 4 ∨ ci = 5 ∨ ci = 6 ∨ ci = 7 ∨ ci = 8 by omega) with rfl | rfl | rfl | rfl | rfl | rfl | rfl | rfl | rfl <;> rfl
theorem zx_ok9 {ci : Nat} (h : ci < 9) : (∀ k, k < zx_fn ci → parseFieldDescriptor (zx_T8 ci k).2.2.1 = some (zx_ft ci k)) ∧ (∀ a, a < zx_fn ci → ∀ b, b < zx_fn ci → a ≠ b → (zx_T8 ci a).2.1 ≠ (zx_T8 ci b).2.1) := by
  rcases (show ci = 0 ∨ ci = 1 ∨ ci = 2 ∨ ci = 3 ∨ ci = 4 ∨ ci = 5 ∨ ci = 6 ∨ ci = 7 ∨ ci = 8 by omega) with rfl | rfl | rfl | rfl | rfl | rfl | rfl | rfl | rfl
  · exact ⟨tyX0_ok, nmX0⟩
  · exact ⟨tyX1_ok, nmX1⟩
  · exact ⟨tyX2_ok, nmX2⟩
  · exact ⟨tyX3_ok, nmX3⟩
  · exact ⟨tyX4_ok, nmX4⟩
  · exact ⟨tyX5_ok, nmX5⟩
  · exact ⟨tyX6_ok, nmX6⟩
  · exact ⟨tyX7_ok, nmX7⟩
  · exact ⟨tyX8_ok, nmX8⟩
section
variable {fx : Nat → Nat → Nat} {vq : Value} {ct : Nat → ClassId} {ad ad' : Nat → Nat} {h : List zx_C} {L : List (Option zx_V)}
theorem zx_w_get {i : Nat} {x : zx_C} (hc : h[i]? = some x) : (zx_w fx vq ct ad h)[i]? = some (ad i, zx_e fx vq ct ad x) := by
  unfold zx_w
  rw [List.getElem?_mapIdx, hc]
  rfl
theorem zx_w_set {i : Nat} {x : zx_C} : zx_w fx vq ct ad (h.set i x) = (zx_w fx vq ct ad h).set i (ad i, zx_e fx vq ct ad x) := by
  apply List.ext_getElem?
  intro j
  unfold zx_w
  rw [List.getElem?_mapIdx, List.getElem?_set, List.getElem?_set, List.getElem?_mapIdx, List.length_mapIdx]
  by_cases e : i = j
  · subst e
    by_cases e2 : i < h.length
    · simp [e2]
    · simp [e2]
  · simp [e]
theorem zx_l_mem {i : Nat} {w : Value} : (i, w) ∈ zx_l fx vq ad L ↔ ∃ v, L[i]? = some (some v) ∧ w = zx_c fx vq ad v := by
  unfold zx_l
  rw [List.mem_filterMap]
  constructor
  · rintro ⟨⟨o, j⟩, h1, h2⟩
    have h1' := List.mem_zipIdx_iff_getElem?.mp h1
    cases o with
    | none => cases h2
    | some v =>
      have h2' : (j, zx_c fx vq ad v) = (i, w) := Option.some.inj h2
      injection h2' with a b
      subst a
      exact ⟨v, h1', b.symm⟩
  · rintro ⟨v, h1, rfl⟩
    exact ⟨(some v, i), List.mem_zipIdx_iff_getElem?.mpr h1, rfl⟩
theorem zx_l_get {ls : Array Slot} {n i : Nat} {v : zx_V} (hl : lv_has ls n (zx_l fx vq ad L)) (hv : L[i]? = some (some v)) : ls[i]? = some (.val (zx_c fx vq ad v)) := hl.2.2 (i, _) (zx_l_mem.mpr ⟨v, hv, rfl⟩)
theorem zx_l_sub {ls : Array Slot} {n : Nat} {a b : List (Nat × Value)} (hl : lv_has ls n a) (hs : ∀ q ∈ b, q ∈ a) : lv_has ls n b := ⟨hl.1, hl.2.1, fun q hq => hl.2.2 q (hs q hq)⟩
theorem zx_kd0 {v : zx_V} (h : zx_kd v = 0) : ∃ x, v = .inl x := by
  rcases v with x | x | x
  · exact ⟨x, rfl⟩
  · cases h
  · cases h
theorem zx_kd1 {v : zx_V} (h : zx_kd v = 1) : ∃ x, v = .inr (.inl x) := by
  rcases v with x | x | x
  · cases h
  · exact ⟨x, rfl⟩
  · cases h
theorem zx_kd2 (hq : vq = .null ∨ ∃ t, vq = .ref t) {v : zx_V} (h : zx_kd v = 2) : zx_c fx vq ad v = .null ∨ ∃ a, zx_c fx vq ad v = .ref a := by
  rcases v with x | x | ⟨t, i⟩
  · cases h
  · cases h
  · unfold zx_c
    split <;> first | exact Or.inl rfl | exact hq | exact Or.inr ⟨_, rfl⟩ | (rename_i e; cases e)
theorem zx_cat (hq : vq = .null ∨ ∃ t, vq = .ref t) (v : zx_V) : (zx_c fx vq ad v).category = if zx_c1 v then 1 else 2 := by
  rcases v with x | x | y
  · rfl
  · rfl
  · rcases zx_kd2 (fx := fx) (ad := ad) hq (v := .inr (.inr y)) rfl with e | ⟨a, e⟩ <;> rw [e] <;> rfl
theorem zx_cat1 (hq : vq = .null ∨ ∃ t, vq = .ref t) {v : zx_V} (h : zx_c1 v = true) : (zx_c fx vq ad v).category = 1 := by rw [zx_cat hq, h]; rfl
theorem zx_cat2 (hq : vq = .null ∨ ∃ t, vq = .ref t) {v : zx_V} (h : ¬ zx_c1 v = true) : (zx_c fx vq ad v).category = 2 := by rw [zx_cat hq, if_neg h]
theorem zx_sum (hq : vq = .null ∨ ∃ t, vq = .ref t) : ∀ r : List zx_V, ((r.map (zx_c fx vq ad)).map fun v => v.category).sum = zx_cs r
  | [] => rfl
  | v :: r => by
    show (zx_c fx vq ad v).category + ((r.map (zx_c fx vq ad)).map fun v => v.category).sum = _
    rw [zx_sum hq r, zx_cat hq]
    rfl
-- storing
theorem zx_cl1_len (L : List (Option zx_V)) (i : Nat) : (zx_cl1 L i).length = L.length := by
  cases i with
  | zero => rfl
  | succ i =>
    show (match L[i]? with | some (some (.inr (.inl _))) => L.set i none | _ => L).length = _
    split
    · rw [List.length_set]
    · rfl
theorem zx_cl1_get {i j : Nat} {v : zx_V} (h : (zx_cl1 L i)[j]? = some (some v)) : L[j]? = some (some v) ∧ ¬ (j + 1 = i ∧ (zx_c fx vq ad v).category = 2 ∧ zx_c1 v = false) := by
  cases i with
  | zero => exact ⟨h, by omega⟩
  | succ i =>
    have h2 : (match L[i]? with | some (some (.inr (.inl _))) => L.set i none | _ => L)[j]? = some (some v) := h
    split at h2
    · rename_i z e
      rw [List.getElem?_set] at h2
      by_cases q : i = j
      · rw [if_pos q] at h2
        split at h2 <;> cases h2
      · rw [if_neg q] at h2
        exact ⟨h2, fun w => q (by omega)⟩
    · rename_i e
      refine ⟨h2, fun w => ?_⟩
      have ej : j = i := by omega
      subst ej
      rcases v with x | x | x
      · cases w.2.2
      · exact e x h2
      · cases w.2.2
theorem zx_l_set1 (hq : vq = .null ∨ ∃ t, vq = .ref t) {i : Nat} {v : zx_V} : ∀ q ∈ zx_l fx vq ad ((zx_cl1 L i).set i (some v)), q ∈ (i, zx_c fx vq ad v) :: (zx_l fx vq ad L).filter (fun q => !(q.1 == i) && !(q.1 + 1 == i && q.2.category == 2)) := by
  rintro ⟨j, w⟩ hm
  obtain ⟨u, h1, rfl⟩ := zx_l_mem.mp hm
  rw [List.getElem?_set] at h1
  by_cases e : i = j
  · subst e
    rw [if_pos rfl] at h1
    split at h1
    · have e2 : v = u := Option.some.inj (Option.some.inj h1)
      rw [e2]
      exact List.mem_cons_self
    · cases h1
  · rw [if_neg e] at h1
    obtain ⟨h2, h3⟩ := zx_cl1_get (fx := fx) (vq := vq) (ad := ad) h1
    refine List.mem_cons_of_mem _ (List.mem_filter.mpr ⟨zx_l_mem.mpr ⟨u, h2, rfl⟩, ?_⟩)
    have n1 : ¬ j = i := fun z => e z.symm
    by_cases e3 : j + 1 = i
    · have n2 : ¬ (zx_c fx vq ad u).category = 2 := fun z => h3 ⟨e3, z, by
        by_cases y : zx_c1 u = true
        · rw [zx_cat1 hq y] at z; omega
        · simpa using y⟩
      simp [n1, n2]
    · simp [n1, e3]
theorem zx_l_set2 (hq : vq = .null ∨ ∃ t, vq = .ref t) {i : Nat} {v : zx_V} : ∀ q ∈ zx_l fx vq ad (((zx_cl1 L i).set i (some v)).set (i + 1) none), q ∈ (i, zx_c fx vq ad v) :: (zx_l fx vq ad L).filter (fun q => !(q.1 == i) && (!(q.1 == i + 1) && !(q.1 + 1 == i && q.2.category == 2))) := by
  rintro ⟨j, w⟩ hm
  obtain ⟨u, h1, rfl⟩ := zx_l_mem.mp hm
  rw [List.getElem?_set] at h1
  by_cases e0 : i + 1 = j
  · rw [if_pos e0] at h1
    split at h1 <;> cases h1
  · rw [if_neg e0] at h1
    have h4 := zx_l_set1 (fx := fx) (ad := ad) (L := L) hq (i := i) (v := v) (j, zx_c fx vq ad u) (zx_l_mem.mpr ⟨u, h1, rfl⟩)
    rcases List.mem_cons.mp h4 with h5 | h5
    · rw [h5]
      exact List.mem_cons_self
    · obtain ⟨h6, h7⟩ := List.mem_filter.mp h5
      refine List.mem_cons_of_mem _ (List.mem_filter.mpr ⟨h6, ?_⟩)
      have n0 : ¬ j = i + 1 := fun z => e0 z.symm
      simp only [Bool.and_eq_true] at h7 ⊢
      exact ⟨h7.1, by simp [n0], h7.2⟩
-- another row of addresses
theorem zx_c_ad {n : Nat} (hd : ∀ i, i < n → ad' i = ad i) {v : zx_V} (hv : zx_vl n v = true) : zx_c fx vq ad' v = zx_c fx vq ad v := by
  rcases v with x | x | ⟨t, i⟩
  · rfl
  · rfl
  · unfold zx_c
    split <;> try rfl
    rename_i e
    have e2 := Sum.inr.inj (Sum.inr.inj e)
    injection e2 with e3 e4
    subst e3 e4
    rw [hd _ (by simpa [zx_vl] using hv)]
theorem zx_S_ad {n : Nat} (hd : ∀ i, i < n → ad' i = ad i) {S : List zx_V} (hv : S.all (zx_vl n) = true) : S.map (zx_c fx vq ad') = S.map (zx_c fx vq ad) :=
  List.map_congr_left fun v h => zx_c_ad hd (List.all_eq_true.mp hv v h)
theorem zx_l_ad {n : Nat} (hd : ∀ i, i < n → ad' i = ad i) (hv : L.all (zx_vo n) = true) : ∀ q ∈ zx_l fx vq ad' L, q ∈ zx_l fx vq ad L := by
  rintro ⟨j, w⟩ hm
  obtain ⟨u, h1, rfl⟩ := zx_l_mem.mp hm
  rw [zx_c_ad hd (List.all_eq_true.mp hv (some u) (List.mem_of_getElem? h1))]
  exact zx_l_mem.mpr ⟨u, h1, rfl⟩
theorem zx_e_ad {n : Nat} (hd : ∀ i, i < n → ad' i = ad i) {x : zx_C} (hv : zx_vc n x = true) : zx_e fx vq ct ad' x = zx_e fx vq ct ad x := by
  rcases x with ⟨ci, fs⟩ | ⟨t, f | f | f⟩
  · show Sum.inr (ci, fs.map _) = Sum.inr (ci, fs.map _)
    rw [zx_S_ad hd hv]
  · rfl
  · rfl
  · show Sum.inl (ct t, f.length, Sum.inr (Sum.inr (Sum.inr (Sum.inr (fun j : Nat => ((f[j]?).getD none).map ad'))))) = Sum.inl (ct t, f.length, Sum.inr (Sum.inr (Sum.inr (Sum.inr (fun j : Nat => ((f[j]?).getD none).map ad)))))
    have e : (fun j : Nat => ((f[j]?).getD none).map ad') = (fun j : Nat => ((f[j]?).getD none).map ad) := by
      funext j
      cases e : f[j]? with
      | none => rfl
      | some o =>
        cases o with
        | none => rfl
        | some i =>
          have h1 := List.all_eq_true.mp hv (some i) (List.mem_of_getElem? e)
          show some (ad' i) = some (ad i)
          rw [hd i (by simpa using h1)]
    rw [e]
theorem zx_w_ad (hd : ∀ i, i < h.length → ad' i = ad i) (hv : h.all (zx_vc h.length) = true) : zx_w fx vq ct ad' h = zx_w fx vq ct ad h := by
  unfold zx_w
  apply List.ext_getElem?
  intro j
  rw [List.getElem?_mapIdx, List.getElem?_mapIdx]
  cases e : h[j]? with
  | none => rfl
  | some x =>
    have hj : j < h.length := (List.getElem?_eq_some_iff.mp e).1
    show some (ad' j, zx_e fx vq ct ad' x) = some (ad j, zx_e fx vq ct ad x)
    rw [hd j hj, zx_e_ad hd (List.all_eq_true.mp hv x (List.mem_of_getElem? e))]
theorem zx_w_app {q : Nat} {x : zx_C} (hv : h.all (zx_vc h.length) = true) : zx_w fx vq ct (va_up ad h.length q) (h ++ [x]) = zx_w fx vq ct ad h ++ [(q, zx_e fx vq ct (va_up ad h.length q) x)] := by
  have e1 : zx_w fx vq ct (va_up ad h.length q) (h ++ [x]) = zx_w fx vq ct (va_up ad h.length q) h ++ [((va_up ad h.length q) h.length, zx_e fx vq ct (va_up ad h.length q) x)] := by
    unfold zx_w
    rw [List.mapIdx_concat]
  rw [e1, zx_w_ad (ad := ad) (fun i hi => by unfold va_up; rw [if_neg (by omega)]) hv]
  have e2 : va_up ad h.length q h.length = q := by unfold va_up; rw [if_pos rfl]
  rw [e2]
end
end
section
/-! part 07: each step of the small machine is a step of the machine -/
def zx_St (fx : Nat → Nat → Nat) (vq : Value) (A : Nat → Prop) (sc : zx_Sc) (U : State) (H : Heap) : Prop :=
  (∀ w ∈ zx_nw, va_Nw w U) ∧ va_AO RX3 U ∧ va_AO RX5 U ∧
  (∀ i : Nat, ∀ q : String × Nat × Nat, zx_st[i]? = some q → vk_R RX4 q.2.1 q.1 (fx 2 i) U) ∧
  vk_S 12 zx_sl zx_sb (fx 2) (fx 3) A U H ∧
  (∀ i : Nat, i < 5 → va_Z (zx_sx i).1 (zx_sx i).2.1 (zx_sx i).2.2 (.ref (fx 4 i)) A U H ∧ va_T .int (fx 4 i) (zx_sa.getD i []).length (fun j => .int ((zx_sa.getD i []).getD j 0)) A U H) ∧
  va_Z (zx_sx 5).1 (zx_sx 5).2.1 (zx_sx 5).2.2 (.int 1) A U H ∧ va_Z (zx_sx 6).1 (zx_sx 6).2.1 (zx_sx 6).2.2 vq A U H ∧ (vq = .null ∨ ∃ t, vq = .ref t) ∧
  (∀ q : Nat × (Nat → Int32), sc = some q → va_X (fx 5 0) q.1 q.2 U H ∧ fx 5 0 < H.size ∧ ¬ A (fx 5 0))
theorem zx_lk_mem {α : Type} {l : List (List (Nat × α))} {o i : Nat} {a : α} (h : zx_lk l o i = some a) : ∃ r, l[o]? = some r ∧ (i, a) ∈ r := by
  unfold zx_lk at h
  split at h
  · rename_i r e
    refine ⟨r, e, ?_⟩
    clear e
    induction r with
    | nil => cases h
    | cons q r ih =>
      obtain ⟨k, b⟩ := q
      rw [List.lookup_cons] at h
      split at h
      · rename_i e
        have e2 : i = k := by simpa using e
        cases h
        subst e2
        exact List.mem_cons_self
      · exact List.mem_cons_of_mem _ (ih h)
  · cases h
theorem zx_cka_use {α : Type} {l : List (List (Nat × α))} {f : Nat → Nat × α → Bool} (hk : zx_cka l f = true) {o i : Nat} {a : α} (h : zx_lk l o i = some a) : f o (i, a) = true := by
  obtain ⟨r, h1, h2⟩ := zx_lk_mem h
  have h3 := List.all_eq_true.mp hk (r, o) (List.mem_zipIdx_iff_getElem?.mpr h1)
  exact List.all_eq_true.mp h3 (i, a) h2
theorem zx_Ni {pc : Nat} {L : List (Option zx_V)} {S : List zx_V} {h : List zx_C} {nc ns : Nat} {st : zx_S} (e : zx_N pc L S h nc ns = some (.inl st)) : st = (pc, L, S, h, nc, ns) := (Sum.inl.inj (Option.some.inj e)).symm
theorem zx_Ji {pc : Nat} {off : Int} {L : List (Option zx_V)} {S : List zx_V} {h : List zx_C} {nc ns : Nat} {st : zx_S} (e : zx_J pc off L S h nc ns = some (.inl st)) : ∃ tgt : Nat, (pc : Int) + off = (tgt : Int) ∧ st = (tgt, L, S, h, nc, ns) := by
  unfold zx_J at e
  split at e
  · rename_i g
    exact ⟨_, (Int.toNat_of_nonneg g).symm, zx_Ni e⟩
  · cases e
theorem zx_vin {i : Int32} {n : Nat} (h : ¬ i < 0 ∧ i.toNatClampNeg < n) : vp_in i n := fun q => q.elim h.1 (fun z => absurd h.2 (Nat.not_lt.mpr z))
section
variable {p : Program} {l : Launch} {e : Env} {R : Room} {s : State} {m : MethodId} {args : Array Value} {below : List Frame} {meth : Method} {c : Code} {Q : State → Prop}
variable {fx : Nat → Nat → Nat} {vq : Value} {ct : Nat → ClassId} {ad : Nat → Nat} {A : Nat → Prop} {sc : zx_Sc} {D : va_G} {t : zx_MT} {d : Nat}
variable {pc nc ns : Nat} {L : List (Option zx_V)} {S : List zx_V} {h : List zx_C} {st : zx_S}
/-- what stays true all through a method -/
def zx_Cx (p : Program) (R : Room) (s : State) (m : MethodId) (args : Array Value) (meth : Method) (c : Code) (fx : Nat → Nat → Nat) (vq : Value) (ct : Nat → ClassId) (A : Nat → Prop) (sc : zx_Sc) (D : va_G) (t : zx_MT) (d : Nat) : Prop :=
  p.tables.exec = Jvm.exec ∧ c.code = zx_mb t ∧ c.maxLocals = zx_mn t ∧ s.vm.findClass (zx_o (zx_mo t)) = some m.cls ∧ (∀ w ∈ zx_G, w.before args s = true) ∧ va_K D zx_cl (zx_tys ct) s ∧ (∀ q : Nat, s.heap.size ≤ q → A q) ∧ zx_St fx vq A sc s s.heap ∧ (d + 1 ≤ R.frames ∧ 40 * d + 40 ≤ R.locals) ∧ (zx_mk t = 2 → meth.name = "<init>")
/-- from this state of the small machine the machine comes to an end with Q -/
def zx_Go (p : Program) (l : Launch) (e : Env) (R : Room) (s : State) (m : MethodId) (args : Array Value) (below : List Frame) (meth : Method) (c : Code) (Q : State → Prop) (fx : Nat → Nat → Nat) (vq : Value) (ct : Nat → ClassId) (A : Nat → Prop) (D : va_G) (t : zx_MT) (ad : Nat → Nat) (st : zx_S) : Prop :=
  ∀ (H : Heap) (locs : List Loc) (ls : Array Slot), va_P D zx_cl (zx_w fx vq ct ad st.2.2.2.1) H → va_D A (zx_w fx vq ct ad st.2.2.2.1) → va_S A s.heap H locs → lv_has ls (zx_mn t) (zx_l fx vq ad st.2.1) →
    W p l e R s m args below meth c H locs st.2.2.2.2.1 st.2.2.2.2.2 Q (F0 m st.1 ls (st.2.2.1.map (zx_c fx vq ad)))
theorem zx_s_ld {ty i n : Nat} {v : zx_V} (h1 : zx_ld ty i n pc L S h nc ns = some (.inl st)) : ∃ v, L[i]? = some (some v) ∧ zx_kd v = ty ∧ st = (pc + n, L, v :: S, h, nc, ns) := by
  unfold zx_ld at h1
  split at h1
  · rename_i v e
    split at h1
    · rename_i g
      exact ⟨v, e, g, zx_Ni h1⟩
    · cases h1
  · cases h1
theorem zx_s_load (X : zx_Cx p R s m args meth c fx vq ct A sc D t d) {ty i n : Nat} (h1 : zx_ld ty i n pc L S h nc ns = some (.inl st))
    (h0 : ∀ {x : Int32} {ls : Array Slot} {rest : List Value} {H : Heap} {locs : List Loc}, ty = 0 → ls[i]? = some (.val (.int x)) → W p l e R s m args below meth c H locs nc ns Q (F0 m (pc + n) ls (.int x :: rest)) → W p l e R s m args below meth c H locs nc ns Q (F0 m pc ls rest))
    (h2 : ∀ {x : Int64} {ls : Array Slot} {rest : List Value} {H : Heap} {locs : List Loc}, ty = 1 → ls[i]? = some (.val (.long x)) → W p l e R s m args below meth c H locs nc ns Q (F0 m (pc + n) ls (.long x :: rest)) → W p l e R s m args below meth c H locs nc ns Q (F0 m pc ls rest))
    (h3 : ∀ {x : Nat} {ls : Array Slot} {rest : List Value} {H : Heap} {locs : List Loc}, ty = 2 → ls[i]? = some (.val (.ref x)) → W p l e R s m args below meth c H locs nc ns Q (F0 m (pc + n) ls (.ref x :: rest)) → W p l e R s m args below meth c H locs nc ns Q (F0 m pc ls rest))
    (h4 : ∀ {ls : Array Slot} {rest : List Value} {H : Heap} {locs : List Loc}, ty = 2 → ls[i]? = some (.val .null) → W p l e R s m args below meth c H locs nc ns Q (F0 m (pc + n) ls (.null :: rest)) → W p l e R s m args below meth c H locs nc ns Q (F0 m pc ls rest))
    (hty : ty < 3) (K : zx_Go p l e R s m args below meth c Q fx vq ct A D t ad st) : zx_Go p l e R s m args below meth c Q fx vq ct A D t ad (pc, L, S, h, nc, ns) := by
  obtain ⟨v, hv, hk, rfl⟩ := zx_s_ld (v := .inl 0) h1
  obtain ⟨-, -, -, -, -, -, -, hSt, -, -⟩ := X
  have hq := hSt.2.2.2.2.2.2.2.2.1
  intro H locs ls hP hD hS hl
  have k := K H locs ls hP hD hS hl
  have g := zx_l_get hl hv
  rcases (show ty = 0 ∨ ty = 1 ∨ ty = 2 by omega) with rfl | rfl | rfl
  · obtain ⟨x, rfl⟩ := zx_kd0 hk
    exact h0 rfl g k
  · obtain ⟨x, rfl⟩ := zx_kd1 hk
    exact h2 rfl g k
  · have k2 : W p l e R s m args below meth c H locs nc ns Q (F0 m (pc + n) ls (zx_c fx vq ad v :: S.map (zx_c fx vq ad))) := k
    rcases zx_kd2 (fx := fx) (ad := ad) hq hk with e1 | ⟨a, e1⟩
    · rw [e1] at g k2
      exact h4 rfl g k2
    · rw [e1] at g k2
      exact h3 rfl g k2
theorem zx_s_store (X : zx_Cx p R s m args meth c fx vq ct A sc D t d) {ty i n : Nat} (h1 : zx_sto ty i n pc L S h nc ns = some (.inl st)) (hLn : L.length ≤ zx_mn t)
    (h0 : ∀ {x : Int32} {ls : Array Slot} {rest : List Value} {H : Heap} {locs : List Loc} {lv : List (Nat × Value)}, ty = 0 → lv_has ls (zx_mn t) lv → i < zx_mn t → (∀ ls' : Array Slot, lv_has ls' (zx_mn t) ((i, Value.int x) :: lv.filter (fun q => !(q.1 == i) && !(q.1 + 1 == i && q.2.category == 2))) → W p l e R s m args below meth c H locs nc ns Q (F0 m (pc + n) ls' rest)) → W p l e R s m args below meth c H locs nc ns Q (F0 m pc ls (.int x :: rest)))
    (h3 : ∀ {x : Nat} {ls : Array Slot} {rest : List Value} {H : Heap} {locs : List Loc} {lv : List (Nat × Value)}, ty = 2 → lv_has ls (zx_mn t) lv → i < zx_mn t → (∀ ls' : Array Slot, lv_has ls' (zx_mn t) ((i, Value.ref x) :: lv.filter (fun q => !(q.1 == i) && !(q.1 + 1 == i && q.2.category == 2))) → W p l e R s m args below meth c H locs nc ns Q (F0 m (pc + n) ls' rest)) → W p l e R s m args below meth c H locs nc ns Q (F0 m pc ls (.ref x :: rest)))
    (h4 : ∀ {ls : Array Slot} {rest : List Value} {H : Heap} {locs : List Loc} {lv : List (Nat × Value)}, ty = 2 → lv_has ls (zx_mn t) lv → i < zx_mn t → (∀ ls' : Array Slot, lv_has ls' (zx_mn t) ((i, Value.null) :: lv.filter (fun q => !(q.1 == i) && !(q.1 + 1 == i && q.2.category == 2))) → W p l e R s m args below meth c H locs nc ns Q (F0 m (pc + n) ls' rest)) → W p l e R s m args below meth c H locs nc ns Q (F0 m pc ls (.null :: rest)))
    (hty : ty = 0 ∨ ty = 2) (K : zx_Go p l e R s m args below meth c Q fx vq ct A D t ad st) : zx_Go p l e R s m args below meth c Q fx vq ct A D t ad (pc, L, S, h, nc, ns) := by
  obtain ⟨-, -, -, -, -, -, -, hSt, -, -⟩ := X
  have hq := hSt.2.2.2.2.2.2.2.2.1
  unfold zx_sto at h1
  split at h1
  · rename_i v r
    split at h1
    · rename_i g
      obtain ⟨hk, hc1, hi⟩ := g
      obtain rfl := zx_Ni h1
      intro H locs ls hP hD hS hl
      have hin : i < zx_mn t := by omega
      have k : ∀ ls' : Array Slot, lv_has ls' (zx_mn t) ((i, zx_c fx vq ad v) :: (zx_l fx vq ad L).filter (fun q => !(q.1 == i) && !(q.1 + 1 == i && q.2.category == 2))) → W p l e R s m args below meth c H locs nc ns Q (F0 m (pc + n) ls' (r.map (zx_c fx vq ad))) := fun ls' h' => K H locs ls' hP hD hS (zx_l_sub h' (zx_l_set1 hq))
      show W p l e R s m args below meth c H locs nc ns Q (F0 m pc ls (zx_c fx vq ad v :: r.map (zx_c fx vq ad)))
      rcases hty with rfl | rfl
      · obtain ⟨x, rfl⟩ := zx_kd0 hk
        exact h0 rfl hl hin k
      · rcases zx_kd2 (fx := fx) (ad := ad) hq hk with e1 | ⟨a, e1⟩
        · rw [e1] at k ⊢
          exact h4 rfl hl hin k
        · rw [e1] at k ⊢
          exact h3 rfl hl hin k
    · cases h1
  · cases h1
theorem zx_s_stl (X : zx_Cx p R s m args meth c fx vq ct A sc D t d) {i n : Nat} (h1 : zx_stl i n pc L S h nc ns = some (.inl st)) (hLn : L.length ≤ zx_mn t)
    (h0 : ∀ {x : Int64} {ls : Array Slot} {rest : List Value} {H : Heap} {locs : List Loc} {lv : List (Nat × Value)}, lv_has ls (zx_mn t) lv → i + 1 < zx_mn t → (∀ ls' : Array Slot, lv_has ls' (zx_mn t) ((i, Value.long x) :: lv.filter (fun q => !(q.1 == i) && (!(q.1 == i + 1) && !(q.1 + 1 == i && q.2.category == 2)))) → W p l e R s m args below meth c H locs nc ns Q (F0 m (pc + n) ls' rest)) → W p l e R s m args below meth c H locs nc ns Q (F0 m pc ls (.long x :: rest)))
    (K : zx_Go p l e R s m args below meth c Q fx vq ct A D t ad st) : zx_Go p l e R s m args below meth c Q fx vq ct A D t ad (pc, L, S, h, nc, ns) := by
  obtain ⟨-, -, -, -, -, -, -, hSt, -, -⟩ := X
  have hq := hSt.2.2.2.2.2.2.2.2.1
  unfold zx_stl at h1
  split at h1
  · split at h1
    · rename_i x r g
      obtain rfl := zx_Ni h1
      intro H locs ls hP hD hS hl
      exact h0 hl (by omega) (fun ls' h' => K H locs ls' hP hD hS (zx_l_sub h' (zx_l_set2 hq)))
    · cases h1
  · cases h1
theorem zx_s_iinc (X : zx_Cx p R s m args meth c fx vq ct A sc D t d) {i : Nat} {z : Int} (hdg : decode (zx_mb t) pc = .ok (.iinc i z, 3)) (h1 : zx_iinc i z pc L S h nc ns = some (.inl st)) (hLn : L.length ≤ zx_mn t)
    (K : zx_Go p l e R s m args below meth c Q fx vq ct A D t ad st) : zx_Go p l e R s m args below meth c Q fx vq ct A D t ad (pc, L, S, h, nc, ns) := by
  obtain ⟨hx, hb, -, -, -, -, -, hSt, -, -⟩ := X
  have hq := hSt.2.2.2.2.2.2.2.2.1
  unfold zx_iinc at h1
  split at h1
  · rename_i x g
    obtain rfl := zx_Ni h1
    intro H locs ls hP hD hS hl
    have hi : i < L.length := (List.getElem?_eq_some_iff.mp g).1
    have hm : (i, Value.int x) ∈ zx_l fx vq ad L := zx_l_mem.mpr ⟨_, g, rfl⟩
    obtain ⟨k, hk⟩ := List.getElem?_of_mem hm
    exact lv_iinc hx hb hdg hl hk rfl (by omega) rfl (fun ls' h' => K H locs ls' hP hD hS (zx_l_sub h' (zx_l_set1 (v := .inl (x + Int32.ofInt z)) hq)))
  · cases h1
theorem zx_s_bin (X : zx_Cx p R s m args meth c fx vq ct A sc D t d) {ins : Instr} (hdg : decode (zx_mb t) pc = .ok (ins, 1)) (h1 : zx_bin ins pc L S h nc ns = some (.inl st))
    (K : zx_Go p l e R s m args below meth c Q fx vq ct A D t ad st) : zx_Go p l e R s m args below meth c Q fx vq ct A D t ad (pc, L, S, h, nc, ns) := by
  obtain ⟨hx, hb, -⟩ := X
  unfold zx_bin at h1
  split at h1
  · rename_i y x r
    split at h1
    · rename_i z g
      obtain rfl := zx_Ni h1
      intro H locs ls hP hD hS hl
      have k := K H locs ls hP hD hS hl
      unfold zx_b2 at g
      split at g
      · cases g; exact lv_iadd hx hb hdg k
      · cases g; exact lv_isub hx hb hdg k
      · cases g; exact lv_imul hx hb hdg k
      · cases g; exact lv_iand hx hb hdg k
      · cases g; exact lv_ior hx hb hdg k
      · cases g; exact lv_ixor hx hb hdg k
      · cases g; exact lv_ishl hx hb hdg k
      · cases g; exact lv_ishr hx hb hdg k
      · cases g; exact lv_iushr hx hb hdg rfl k
      · split at g
        · cases g
        · rename_i hne; cases g; exact lv_idiv hx hb hdg hne k
      · split at g
        · cases g
        · rename_i hne; cases g; exact lv_irem hx hb hdg hne k
      · cases g
    · cases h1
  · cases h1
theorem zx_s_un (X : zx_Cx p R s m args meth c fx vq ct A sc D t d) {ins : Instr} (hdg : decode (zx_mb t) pc = .ok (ins, 1)) (h1 : zx_un ins pc L S h nc ns = some (.inl st))
    (K : zx_Go p l e R s m args below meth c Q fx vq ct A D t ad st) : zx_Go p l e R s m args below meth c Q fx vq ct A D t ad (pc, L, S, h, nc, ns) := by
  obtain ⟨hx, hb, -⟩ := X
  unfold zx_un at h1
  split at h1
  · split at h1
    · rename_i z g
      obtain rfl := zx_Ni h1
      intro H locs ls hP hD hS hl
      have k := K H locs ls hP hD hS hl
      unfold zx_b1 at g
      split at g
      · cases g; exact lv_ineg hx hb hdg k
      · cases g; exact lv_i2b hx hb hdg rfl k
      · cases g; exact lv_i2s hx hb hdg rfl k
      · cases g; exact lv_i2c hx hb hdg rfl k
      · cases g
    · cases h1
  · cases h1
theorem zx_s_lng (X : zx_Cx p R s m args meth c fx vq ct A sc D t d) {ins : Instr} (hdg : decode (zx_mb t) pc = .ok (ins, 1)) (h1 : zx_lng ins pc L S h nc ns = some (.inl st))
    (K : zx_Go p l e R s m args below meth c Q fx vq ct A D t ad st) : zx_Go p l e R s m args below meth c Q fx vq ct A D t ad (pc, L, S, h, nc, ns) := by
  obtain ⟨hx, hb, -⟩ := X
  unfold zx_lng at h1
  split at h1
  · obtain rfl := zx_Ni h1
    intro H locs ls hP hD hS hl
    exact lv_i2l hx hb hdg rfl (K H locs ls hP hD hS hl)
  · obtain rfl := zx_Ni h1
    intro H locs ls hP hD hS hl
    exact lv_l2i hx hb hdg rfl (K H locs ls hP hD hS hl)
  · obtain rfl := zx_Ni h1
    intro H locs ls hP hD hS hl
    exact lv_land hx hb hdg (K H locs ls hP hD hS hl)
  · obtain rfl := zx_Ni h1
    intro H locs ls hP hD hS hl
    exact lv_lor hx hb hdg (K H locs ls hP hD hS hl)
  · obtain rfl := zx_Ni h1
    intro H locs ls hP hD hS hl
    exact lv_lshl hx hb hdg rfl (K H locs ls hP hD hS hl)
  · cases h1
theorem zx_s_stk (X : zx_Cx p R s m args meth c fx vq ct A sc D t d) {ins : Instr} (hdg : decode (zx_mb t) pc = .ok (ins, 1)) (h1 : zx_stk ins pc L S h nc ns = some (.inl st))
    (K : zx_Go p l e R s m args below meth c Q fx vq ct A D t ad st) : zx_Go p l e R s m args below meth c Q fx vq ct A D t ad (pc, L, S, h, nc, ns) := by
  obtain ⟨hx, hb, -, -, -, -, -, hSt, -, -⟩ := X
  have hq := hSt.2.2.2.2.2.2.2.2.1
  unfold zx_stk at h1
  split at h1
  · split at h1
    · rename_i g
      obtain rfl := zx_Ni h1
      intro H locs ls hP hD hS hl
      exact lv_dup hx hb hdg (zx_cat1 hq g) (K H locs ls hP hD hS hl)
    · cases h1
  · split at h1
    · rename_i g
      obtain rfl := zx_Ni h1
      intro H locs ls hP hD hS hl
      exact lv_pop hx hb hdg (zx_cat1 hq g) (K H locs ls hP hD hS hl)
    · cases h1
  · split at h1
    · rename_i g
      obtain rfl := zx_Ni h1
      intro H locs ls hP hD hS hl
      exact lv_dup_x1 hx hb hdg (zx_cat1 hq g.1) (zx_cat1 hq g.2) (K H locs ls hP hD hS hl)
    · cases h1
  · split at h1
    · rename_i g
      obtain rfl := zx_Ni h1
      intro H locs ls hP hD hS hl
      exact lv_dup2_11 hx hb hdg (zx_cat1 hq g.1) (zx_cat1 hq g.2) (K H locs ls hP hD hS hl)
    · cases h1
  · split at h1
    · cases h1
    · rename_i g
      obtain rfl := zx_Ni h1
      intro H locs ls hP hD hS hl
      exact lv_pop2_2 hx hb hdg (zx_cat2 hq g) (K H locs ls hP hD hS hl)
  · cases h1
theorem zx_s_br {b : Bool} {off : Int} {r : List zx_V} {S0 : List zx_V} (h1 : zx_br b off pc L r h nc ns = some (.inl st))
    (kk : ∀ {tgt : Nat} {ls : Array Slot} {H : Heap} {locs : List Loc}, (pc : Int) + off = (tgt : Int) → (b = true → W p l e R s m args below meth c H locs nc ns Q (F0 m tgt ls (r.map (zx_c fx vq ad)))) → (b = false → W p l e R s m args below meth c H locs nc ns Q (F0 m (pc + 3) ls (r.map (zx_c fx vq ad)))) → W p l e R s m args below meth c H locs nc ns Q (F0 m pc ls (S0.map (zx_c fx vq ad))))
    (K : zx_Go p l e R s m args below meth c Q fx vq ct A D t ad st) : zx_Go p l e R s m args below meth c Q fx vq ct A D t ad (pc, L, S0, h, nc, ns) := by
  unfold zx_br at h1
  split at h1
  · rename_i g0
    split at h1
    · rename_i g
      obtain rfl := zx_Ni h1
      intro H locs ls hP hD hS hl
      exact kk (Int.toNat_of_nonneg g0).symm (fun _ => K H locs ls hP hD hS hl) (fun z => by rw [g] at z; cases z)
    · rename_i g
      obtain rfl := zx_Ni h1
      intro H locs ls hP hD hS hl
      exact kk (Int.toNat_of_nonneg g0).symm (fun z => absurd z g) (fun _ => K H locs ls hP hD hS hl)
  · cases h1
theorem zx_s_if1 (X : zx_Cx p R s m args meth c fx vq ct A sc D t d) {cn : ClassFile.Cond} {off : Int} (hdg : decode (zx_mb t) pc = .ok (.ifCond cn off, 3)) (h1 : zx_if1 cn off pc L S h nc ns = some (.inl st))
    (K : zx_Go p l e R s m args below meth c Q fx vq ct A D t ad st) : zx_Go p l e R s m args below meth c Q fx vq ct A D t ad (pc, L, S, h, nc, ns) := by
  obtain ⟨hx, hb, -⟩ := X
  unfold zx_if1 at h1
  split at h1
  · refine zx_s_br h1 (fun ht k1 k2 => ?_) K
    cases cn
    · exact lv_if_eq hx hb hdg ht (fun z => k1 (decide_eq_true z)) (fun z => k2 (decide_eq_false z))
    · exact lv_if_ne hx hb hdg ht (fun z => k1 (decide_eq_true z)) (fun z => k2 (decide_eq_false (fun y => y z)))
    · exact lv_if_lt hx hb hdg ht (fun z => k1 (decide_eq_true z)) (fun z => k2 (decide_eq_false z))
    · exact lv_if_ge hx hb hdg ht (fun z => k1 (decide_eq_true z)) (fun z => k2 (decide_eq_false z))
    · exact lv_if_gt hx hb hdg ht (fun z => k1 (decide_eq_true z)) (fun z => k2 (decide_eq_false z))
    · exact lv_if_le hx hb hdg ht (fun z => k1 (decide_eq_true z)) (fun z => k2 (decide_eq_false z))
  · cases h1
theorem zx_s_if2 (X : zx_Cx p R s m args meth c fx vq ct A sc D t d) {cn : ClassFile.Cond} {off : Int} (hdg : decode (zx_mb t) pc = .ok (.if_icmp cn off, 3)) (h1 : zx_if2 cn off pc L S h nc ns = some (.inl st))
    (K : zx_Go p l e R s m args below meth c Q fx vq ct A D t ad st) : zx_Go p l e R s m args below meth c Q fx vq ct A D t ad (pc, L, S, h, nc, ns) := by
  obtain ⟨hx, hb, -⟩ := X
  unfold zx_if2 at h1
  split at h1
  · refine zx_s_br h1 (fun ht k1 k2 => ?_) K
    cases cn
    · exact lv_icmp_eq hx hb hdg ht (fun z => k1 (decide_eq_true z)) (fun z => k2 (decide_eq_false z))
    · exact lv_icmp_ne hx hb hdg ht (fun z => k1 (decide_eq_true z)) (fun z => k2 (decide_eq_false (fun y => y z)))
    · exact lv_icmp_lt hx hb hdg ht (fun z => k1 (decide_eq_true z)) (fun z => k2 (decide_eq_false z))
    · exact lv_icmp_ge hx hb hdg ht (fun z => k1 (decide_eq_true z)) (fun z => k2 (decide_eq_false z))
    · exact lv_icmp_gt hx hb hdg ht (fun z => k1 (decide_eq_true z)) (fun z => k2 (decide_eq_false z))
    · exact lv_icmp_le hx hb hdg ht (fun z => k1 (decide_eq_true z)) (fun z => k2 (decide_eq_false z))
  · cases h1
theorem zx_s_goto (X : zx_Cx p R s m args meth c fx vq ct A sc D t d) {off : Int} (hdg : decode (zx_mb t) pc = .ok (.goto off, 3)) (h1 : zx_J pc off L S h nc ns = some (.inl st))
    (K : zx_Go p l e R s m args below meth c Q fx vq ct A D t ad st) : zx_Go p l e R s m args below meth c Q fx vq ct A D t ad (pc, L, S, h, nc, ns) := by
  obtain ⟨hx, hb, -⟩ := X
  obtain ⟨tgt, ht, rfl⟩ := zx_Ji h1
  intro H locs ls hP hD hS hl
  exact lv_goto hx hb hdg ht (K H locs ls hP hD hS hl)
theorem zx_s_tsw (X : zx_Cx p R s m args meth c fx vq ct A sc D t d) {dflt lo hi : Int} {offs : Array Int} {len : Nat} (hdg : decode (zx_mb t) pc = .ok (.tableswitch dflt lo hi offs, len)) (h1 : zx_tsw dflt lo hi offs pc L S h nc ns = some (.inl st))
    (K : zx_Go p l e R s m args below meth c Q fx vq ct A D t ad st) : zx_Go p l e R s m args below meth c Q fx vq ct A D t ad (pc, L, S, h, nc, ns) := by
  obtain ⟨hx, hb, -⟩ := X
  unfold zx_tsw at h1
  split at h1
  · split at h1
    · rename_i g
      obtain ⟨tgt, ht, rfl⟩ := zx_Ji h1
      intro H locs ls hP hD hS hl
      exact lv_tableOut hx hb hdg g ht (K H locs ls hP hD hS hl)
    · rename_i g
      split at h1
      · rename_i off g2
        obtain ⟨tgt, ht, rfl⟩ := zx_Ji h1
        intro H locs ls hP hD hS hl
        exact lv_tableIn hx hb hdg (fun z => g (Or.inl z)) (fun z => g (Or.inr z)) g2 ht (K H locs ls hP hD hS hl)
      · cases h1
  · cases h1
theorem zx_s_lsw (X : zx_Cx p R s m args meth c fx vq ct A sc D t d) {dflt : Int} {ps : Array (Int × Int)} {len : Nat} (hdg : decode (zx_mb t) pc = .ok (.lookupswitch dflt ps, len)) (h1 : zx_lsw dflt ps pc L S h nc ns = some (.inl st))
    (K : zx_Go p l e R s m args below meth c Q fx vq ct A D t ad st) : zx_Go p l e R s m args below meth c Q fx vq ct A D t ad (pc, L, S, h, nc, ns) := by
  obtain ⟨hx, hb, -⟩ := X
  unfold zx_lsw at h1
  split at h1
  · split at h1
    · rename_i g
      obtain ⟨tgt, ht, rfl⟩ := zx_Ji h1
      intro H locs ls hP hD hS hl
      exact lv_lookup hx hb hdg g rfl ht (K H locs ls hP hD hS hl)
    · cases h1
  · cases h1
end
end
section
/-! part 08: fields, statics, rows, constants -/
section
variable {p : Program} {l : Launch} {e : Env} {R : Room} {s : State} {m : MethodId} {args : Array Value} {below : List Frame} {meth : Method} {c : Code} {Q : State → Prop}
variable {fx : Nat → Nat → Nat} {vq : Value} {ct : Nat → ClassId} {ad : Nat → Nat} {A : Nat → Prop} {sc : zx_Sc} {D : va_G} {t : zx_MT} {d : Nat}
variable {pc nc ns : Nat} {L : List (Option zx_V)} {S : List zx_V} {h : List zx_C} {st : zx_S}
theorem zx_hin {ci : Nat} (h : ci < 9) : ∀ w ∈ u_ws (zx_R9 ci) (zx_T8 ci) (zx_fn ci), w ∈ zx_G := by
  have h1 := List.all_eq_true.mp zx_ckU ci (List.mem_range.mpr h)
  intro w hw
  have h2 := List.all_eq_true.mp h1 w hw
  simpa using h2
theorem zx_nest {w : Cond} (hN : ∀ w ∈ zx_nw, va_Nw w s) (hw : w ∈ zx_nw) : w.before args s = true := by
  have h1 := (List.mem_filter.mp hw).2
  have h2 := hN w hw
  cases w <;> first | exact va_Nw.use rfl h2 | (exact absurd h1 (by intro z; cases z))
theorem zx_s_gf (X : zx_Cx p R s m args meth c fx vq ct A sc D t d) {ix : Nat} (hdg : decode (zx_mb t) pc = .ok (.getfield ix, 3)) (h1 : zx_gf (zx_mo t) ix pc L S h nc ns = some (.inl st))
    (K : zx_Go p l e R s m args below meth c Q fx vq ct A D t ad st) : zx_Go p l e R s m args below meth c Q fx vq ct A D t ad (pc, L, S, h, nc, ns) := by
  obtain ⟨hx, hb, -, hown, hts, hK, -, hSt, -, -⟩ := X
  unfold zx_gf at h1
  split at h1
  · split at h1
    · rename_i a r _ _ ci k np ci' fs e1 e2
      split at h1
      · rename_i g
        subst g
        split at h1
        · rename_i v g2
          obtain rfl := zx_Ni h1
          have hF := zx_cka_use zx_ckF_all e1
          simp only [zx_ckF, Bool.and_eq_true, decide_eq_true_eq] at hF
          obtain ⟨hci, hk, hF⟩ := hF
          intro H locs ls hP hD hS hl
          have he := zx_w_get (fx := fx) (vq := vq) (ct := ct) (ad := ad) e2
          have hv : (fs.map (zx_c fx vq ad))[k]? = some (zx_c fx vq ad v) := by rw [List.getElem?_map, g2]; rfl
          split at hF
          · exact va_get hx hb hts (zx_hin hci) hown hK hP _ he (zx_clk hci) k hk (hts _ (zx_inG_mem hF)) (fun _ h9 => h9) hv hdg (K H locs ls hP hD hS hl)
          · exact va_getN hx hb hts (zx_hin hci) hown hK hP _ he (zx_clk hci) k hk (zx_nest hSt.1 (zx_inN_mem hF)) (fun _ h9 => h9) hv hdg (K H locs ls hP hD hS hl)
          · cases hF
        · cases h1
      · cases h1
    · cases h1
  · rename_i a r
    split at h1
    · rename_i ha
      have hE := hSt.2.2.2.2.1.1 a ha
      split at h1
      · rename_i e1
        obtain rfl := zx_Ni h1
        have hF := zx_cka_use zx_ckK_all e1
        intro H locs ls hP hD hS hl
        exact vk_getf hx hb hE.2.2.1 hS hown (hts _ (zx_inG_mem hF)) (fun _ h9 => h9) hdg (K H locs ls hP hD hS hl)
      · rename_i e1
        obtain rfl := zx_Ni h1
        have hF := zx_cka_use zx_ckK_all e1
        intro H locs ls hP hD hS hl
        exact vk_getf hx hb hE.2.1 hS hown (hts _ (zx_inG_mem hF)) (fun _ h9 => h9) hdg (K H locs ls hP hD hS hl)
      · cases h1
    · cases h1
  · cases h1
theorem zx_fits_ok {ty : FieldType} {v : zx_V} (h : zx_fit ty v = true) : narrow ty (zx_c fx vq ad v) = zx_c fx vq ad v ∧ fits ty (zx_c fx vq ad v) = true := by
  unfold zx_fit at h
  split at h
  · exact ⟨rfl, rfl⟩
  · rename_i x
    have h2 : x = 0 ∨ x = 1 := by simpa using h
    rcases h2 with rfl | rfl
    · exact ⟨by show narrow FieldType.boolean (Value.int 0) = Value.int 0; decide, by show fits FieldType.boolean (Value.int 0) = true; decide⟩
    · exact ⟨by show narrow FieldType.boolean (Value.int 1) = Value.int 1; decide, by show fits FieldType.boolean (Value.int 1) = true; decide⟩
  · exact ⟨rfl, rfl⟩
  · exact ⟨rfl, rfl⟩
  · cases h
theorem zx_map_set {α β : Type} (f : α → β) (l : List α) (k : Nat) (v : α) : (l.set k v).map f = (l.map f).set k (f v) := by
  rw [List.map_set]
theorem zx_o9 {ci : Nat} (h : ci < 9) (k : Nat) : (zx_T8 ci k).1 = zx_o ci := by
  rcases (show ci = 0 ∨ ci = 1 ∨ ci = 2 ∨ ci = 3 ∨ ci = 4 ∨ ci = 5 ∨ ci = 6 ∨ ci = 7 ∨ ci = 8 by omega) with rfl | rfl | rfl | rfl | rfl | rfl | rfl | rfl | rfl
  · show (TX0 k).1 = _; unfold TX0; split <;> rfl
  · show (TX1 k).1 = _; unfold TX1; split <;> rfl
  · show (TX2 k).1 = _; unfold TX2; split <;> rfl
  · show (TX3 k).1 = _; unfold TX3; split <;> rfl
  · show (TX4 k).1 = _; unfold TX4; split <;> rfl
  · show (TX5 k).1 = _; unfold TX5; split <;> rfl
  · show (TX6 k).1 = _; unfold TX6; split <;> rfl
  · show (TX7 k).1 = _; unfold TX7; split <;> rfl
  · show (TX8 k).1 = _; unfold TX8; split <;> rfl
theorem zx_s_pf (X : zx_Cx p R s m args meth c fx vq ct A sc D t d) {ix : Nat} (hdg : decode (zx_mb t) pc = .ok (.putfield ix, 3)) (h1 : zx_pf (zx_mo t) (zx_mk t) ix pc L S h nc ns = some (.inl st))
    (K : zx_Go p l e R s m args below meth c Q fx vq ct A D t ad st) : zx_Go p l e R s m args below meth c Q fx vq ct A D t ad (pc, L, S, h, nc, ns) := by
  obtain ⟨hx, hb, -, hown, hts, hK, -, hSt, -, hin⟩ := X
  unfold zx_pf at h1
  split at h1
  · split at h1
    · rename_i v a r _ _ ci k nest pp ci' fs e1 e2
      split at h1
      · rename_i g
        obtain ⟨g, hkl, hfit, hfin⟩ := g
        subst g
        obtain rfl := zx_Ni h1
        have hF := zx_cka_use zx_ckF_all e1
        simp only [zx_ckF, Bool.and_eq_true, decide_eq_true_eq] at hF
        obtain ⟨hci, hk, hF⟩ := hF
        obtain ⟨hty, hnm⟩ := zx_ok9 hci
        obtain ⟨f1, f2⟩ := zx_fits_ok (fx := fx) (vq := vq) (ad := ad) hfit
        intro H locs ls hP hD hS hl
        have he := zx_w_get (fx := fx) (vq := vq) (ct := ct) (ad := ad) e2
        have hlen : k < (fs.map (zx_c fx vq ad)).length := by rw [List.length_map]; exact hkl
        have ew : zx_w fx vq ct ad (h.set a (.inl (ci', fs.set k v))) = (zx_w fx vq ct ad h).set a (ad a, .inr (ci', (fs.map (zx_c fx vq ad)).set k (zx_c fx vq ad v))) := by
          rw [zx_w_set]
          show (zx_w fx vq ct ad h).set a (ad a, Sum.inr (ci', (fs.set k v).map (zx_c fx vq ad))) = _
          rw [zx_map_set]
        have K2 : ∀ (H1 : Heap) (locs1 : List Loc), va_P D zx_cl ((zx_w fx vq ct ad h).set a (ad a, .inr (ci', (fs.map (zx_c fx vq ad)).set k (zx_c fx vq ad v)))) H1 → va_D A ((zx_w fx vq ct ad h).set a (ad a, .inr (ci', (fs.map (zx_c fx vq ad)).set k (zx_c fx vq ad v)))) → va_S A s.heap H1 locs1 → W p l e R s m args below meth c H1 locs1 nc ns Q (F0 m (pc + 3) ls (r.map (zx_c fx vq ad))) := by
          intro H1 locs1 hP1 hD1 hS1
          rw [← ew] at hP1 hD1
          exact K H1 locs1 ls hP1 hD1 hS1 hl
        rcases hfin with hff | ⟨rfl, hkd, hco⟩
        · split at hF
          · exact va_put hx hb hts (zx_hin hci) (zx_ft ci') hty hnm hown hK hP hD hS _ he (zx_clk hci) k hk (hts _ (zx_inG_mem hF)) (fun _ h9 => h9) hff (hty k hk) f1 f2 hlen hdg K2
          · exact va_putN hx hb hts (zx_hin hci) (zx_ft ci') hty hnm hown hK hP hD hS _ he (zx_clk hci) k hk (zx_nest hSt.1 (zx_inN_mem hF)) (fun _ h9 => h9) hff (hty k hk) f1 f2 hlen hdg K2
          · cases hF
        · by_cases hff : (zx_T8 ci' k).2.2.2 = false
          · exact va_put hx hb hts (zx_hin hci) (zx_ft ci') hty hnm hown hK hP hD hS _ he (zx_clk hci) k hk (hts _ (zx_inG_mem hF)) (fun _ h9 => h9) hff (hty k hk) f1 f2 hlen hdg K2
          · exact va_putF hx hb hts (zx_hin hci) (zx_ft ci') hty hnm hown hK hP hD hS _ he (zx_clk hci) k hk (hts _ (zx_inG_mem hF)) (fun _ h9 => h9) (by simpa using hff) (hin hkd) (by rw [zx_o9 hci, hco]) (hty k hk) f1 f2 hlen hdg K2
      · cases h1
    · cases h1
  · cases h1
theorem zx_s_gs (X : zx_Cx p R s m args meth c fx vq ct A sc D t d) {ix : Nat} (hdg : decode (zx_mb t) pc = .ok (.getstatic ix, 3)) (h1 : zx_gs (zx_mo t) ix pc L S h nc ns = some (.inl st))
    (K : zx_Go p l e R s m args below meth c Q fx vq ct A D t ad st) : zx_Go p l e R s m args below meth c Q fx vq ct A D t ad (pc, L, S, h, nc, ns) := by
  obtain ⟨hx, hb, -, hown, hts, hK, -, hSt, -, hin⟩ := X
  unfold zx_gs at h1
  split at h1
  · rename_i g pp e1
    have hF := zx_cka_use zx_ckG_all e1
    have key : ∀ {v : Value} {H : Heap} {locs : List Loc} {ls : Array Slot}, va_Z (zx_sx g).1 (zx_sx g).2.1 (zx_sx g).2.2 v A s s.heap → va_S A s.heap H locs → W p l e R s m args below meth c H locs nc ns Q (F0 m (pc + 3) ls (v :: S.map (zx_c fx vq ad))) → W p l e R s m args below meth c H locs nc ns Q (F0 m pc ls (S.map (zx_c fx vq ad))) := by
      intro v H locs ls hZ hS k
      simp only at hF
      split at hF
      · exact va_gets hx hb hZ hS hown (hts _ (zx_inG_mem hF)) (fun _ h9 => h9) hdg k
      · exact va_getsN hx hb hZ hS hown (zx_nest hSt.1 (zx_inN_mem hF)) (fun _ h9 => h9) hdg k
      · cases hF
    split at h1
    · rename_i g5
      obtain rfl := zx_Ni h1
      intro H locs ls hP hD hS hl
      exact key (hSt.2.2.2.2.2.1 g g5).1 hS (K H locs ls hP hD hS hl)
    · split at h1
      · rename_i g5
        subst g5
        obtain rfl := zx_Ni h1
        intro H locs ls hP hD hS hl
        exact key hSt.2.2.2.2.2.2.1 hS (K H locs ls hP hD hS hl)
      · split at h1
        · rename_i g5
          subst g5
          obtain rfl := zx_Ni h1
          intro H locs ls hP hD hS hl
          exact key hSt.2.2.2.2.2.2.2.1 hS (K H locs ls hP hD hS hl)
        · cases h1
  · cases h1
theorem zx_s_al (X : zx_Cx p R s m args meth c fx vq ct A sc D t d) (hdg : decode (zx_mb t) pc = .ok (.arraylength, 1)) (h1 : zx_al sc pc L S h nc ns = some (.inl st))
    (K : zx_Go p l e R s m args below meth c Q fx vq ct A D t ad st) : zx_Go p l e R s m args below meth c Q fx vq ct A D t ad (pc, L, S, h, nc, ns) := by
  obtain ⟨hx, hb, -, hown, hts, hK, -, hSt, -, hin⟩ := X
  unfold zx_al at h1
  split at h1
  · split at h1
    · rename_i a r _ t0 z e2
      split at h1
      · rename_i g
        obtain rfl := zx_Ni h1
        intro H locs ls hP hD hS hl
        have he := zx_w_get (fx := fx) (vq := vq) (ct := ct) (ad := ad) e2
        rcases z with f | f | f
        · exact va_alen hx hb hK hP _ t0 he (zx_tyk g) rfl hdg (K H locs ls hP hD hS hl)
        · exact va_alen hx hb hK hP _ t0 he (zx_tyk g) rfl hdg (K H locs ls hP hD hS hl)
        · exact va_alen hx hb hK hP _ t0 he (zx_tyk g) rfl hdg (K H locs ls hP hD hS hl)
      · cases h1
    · cases h1
  · split at h1
    · rename_i a r g
      obtain rfl := zx_Ni h1
      intro H locs ls hP hD hS hl
      exact va_tlen hx hb (hSt.2.2.2.2.1.1 a g).2.2.2 hS rfl hdg (K H locs ls hP hD hS hl)
    · cases h1
  · split at h1
    · rename_i q
      have hsc := hSt.2.2.2.2.2.2.2.2.2 q rfl
      obtain rfl := zx_Ni h1
      intro H locs ls hP hD hS hl
      exact va_slen hx hb hsc.1 hsc.2.1 hsc.2.2 hS hdg (K H locs ls hP hD hS hl)
    · cases h1
  · cases h1
theorem zx_s_ial (X : zx_Cx p R s m args meth c fx vq ct A sc D t d) (hdg : decode (zx_mb t) pc = .ok (.iaload, 1)) (h1 : zx_ial sc pc L S h nc ns = some (.inl st))
    (K : zx_Go p l e R s m args below meth c Q fx vq ct A D t ad st) : zx_Go p l e R s m args below meth c Q fx vq ct A D t ad (pc, L, S, h, nc, ns) := by
  obtain ⟨hx, hb, -, hown, hts, hK, -, hSt, -, hin⟩ := X
  unfold zx_ial at h1
  split at h1
  · split at h1
    · rename_i i a r _ f e2
      split at h1
      · rename_i g
        obtain rfl := zx_Ni h1
        intro H locs ls hP hD hS hl
        exact va_iald hx hb hK hP _ 0 (zx_w_get (fx := fx) (vq := vq) (ct := ct) (ad := ad) e2) rfl (zx_vin g) hdg (K H locs ls hP hD hS hl)
      · cases h1
    · cases h1
  · split at h1
    · rename_i i a r g
      obtain rfl := zx_Ni h1
      intro H locs ls hP hD hS hl
      exact va_ti hx hb (hSt.2.2.2.2.2.1 a g.1).2 hS (zx_vin g.2) rfl hdg (K H locs ls hP hD hS hl)
    · cases h1
  · split at h1
    · rename_i q
      split at h1
      · rename_i g
        have hsc := hSt.2.2.2.2.2.2.2.2.2 q rfl
        obtain rfl := zx_Ni h1
        intro H locs ls hP hD hS hl
        exact va_sld hx hb hsc.1 hsc.2.1 hsc.2.2 hS (zx_vin g) hdg (K H locs ls hP hD hS hl)
      · cases h1
    · cases h1
  · cases h1
theorem zx_setf {α : Type} {f : List α} {i : Nat} {x d0 : α} (hi : i < f.length) (j : Nat) : (f.set i x).getD j d0 = if j = i then x else f.getD j d0 := by
  rw [List.getD_eq_getElem?_getD, List.getD_eq_getElem?_getD, List.getElem?_set]
  by_cases e : i = j
  · subst e
    rw [if_pos rfl, if_pos rfl, if_pos hi]
    rfl
  · rw [if_neg e, if_neg (fun q => e q.symm)]
theorem zx_w_ias {a i : Nat} {f : List Int32} {x : Int32} (hi : i < f.length) : zx_w fx vq ct ad (h.set a (.inr (0, .inl (f.set i x)))) = (zx_w fx vq ct ad h).set a (ad a, .inl (ct 0, f.length, .inl (upd (fun j : Nat => f.getD j 0) i x))) := by
  rw [zx_w_set]
  show (zx_w fx vq ct ad h).set a (ad a, .inl (ct 0, (f.set i x).length, .inl (fun j : Nat => (f.set i x).getD j 0))) = _
  have e : (fun j : Nat => (f.set i x).getD j 0) = upd (fun j : Nat => f.getD j 0) i x := by
    funext j
    exact zx_setf hi j
  rw [e, List.length_set]
theorem zx_w_las {a i : Nat} {f : List Int64} {x : Int64} (hi : i < f.length) : zx_w fx vq ct ad (h.set a (.inr (1, .inr (.inl (f.set i x))))) = (zx_w fx vq ct ad h).set a (ad a, .inl (ct 1, f.length, .inr (.inl (vp_updL (fun j : Nat => f.getD j 0) i x)))) := by
  rw [zx_w_set]
  show (zx_w fx vq ct ad h).set a (ad a, .inl (ct 1, (f.set i x).length, .inr (.inl (fun j : Nat => (f.set i x).getD j 0)))) = _
  have e : (fun j : Nat => (f.set i x).getD j 0) = vp_updL (fun j : Nat => f.getD j 0) i x := by
    funext j
    exact zx_setf hi j
  rw [e, List.length_set]
theorem zx_s_ias (X : zx_Cx p R s m args meth c fx vq ct A sc D t d) (hdg : decode (zx_mb t) pc = .ok (.iastore, 1)) (h1 : zx_ias pc L S h nc ns = some (.inl st))
    (K : zx_Go p l e R s m args below meth c Q fx vq ct A D t ad st) : zx_Go p l e R s m args below meth c Q fx vq ct A D t ad (pc, L, S, h, nc, ns) := by
  obtain ⟨hx, hb, -, hown, hts, hK, -, hSt, -, hin⟩ := X
  unfold zx_ias at h1
  split at h1
  · split at h1
    · rename_i x i a r _ f e2
      split at h1
      · rename_i g
        obtain rfl := zx_Ni h1
        intro H locs ls hP hD hS hl
        exact va_iast hx hb hK hP hD hS _ 0 (zx_w_get (fx := fx) (vq := vq) (ct := ct) (ad := ad) e2) rfl (zx_vin g) hdg (fun H1 locs1 hP1 hD1 hS1 => K H1 locs1 ls (by rw [zx_w_ias g.2]; exact hP1) (by rw [zx_w_ias g.2]; exact hD1) hS1 hl)
      · cases h1
    · cases h1
  · cases h1
theorem zx_s_lal (X : zx_Cx p R s m args meth c fx vq ct A sc D t d) (hdg : decode (zx_mb t) pc = .ok (.laload, 1)) (h1 : zx_lal pc L S h nc ns = some (.inl st))
    (K : zx_Go p l e R s m args below meth c Q fx vq ct A D t ad st) : zx_Go p l e R s m args below meth c Q fx vq ct A D t ad (pc, L, S, h, nc, ns) := by
  obtain ⟨hx, hb, -, hown, hts, hK, -, hSt, -, hin⟩ := X
  unfold zx_lal at h1
  split at h1
  · split at h1
    · rename_i i a r _ f e2
      split at h1
      · rename_i g
        obtain rfl := zx_Ni h1
        intro H locs ls hP hD hS hl
        exact va_lald hx hb hK hP _ 1 (zx_w_get (fx := fx) (vq := vq) (ct := ct) (ad := ad) e2) rfl (zx_vin g) hdg (K H locs ls hP hD hS hl)
      · cases h1
    · cases h1
  · cases h1
theorem zx_s_las (X : zx_Cx p R s m args meth c fx vq ct A sc D t d) (hdg : decode (zx_mb t) pc = .ok (.lastore, 1)) (h1 : zx_las pc L S h nc ns = some (.inl st))
    (K : zx_Go p l e R s m args below meth c Q fx vq ct A D t ad st) : zx_Go p l e R s m args below meth c Q fx vq ct A D t ad (pc, L, S, h, nc, ns) := by
  obtain ⟨hx, hb, -, hown, hts, hK, -, hSt, -, hin⟩ := X
  unfold zx_las at h1
  split at h1
  · split at h1
    · rename_i x i a r _ f e2
      split at h1
      · rename_i g
        obtain rfl := zx_Ni h1
        intro H locs ls hP hD hS hl
        exact va_last hx hb hK hP hD hS _ 1 (zx_w_get (fx := fx) (vq := vq) (ct := ct) (ad := ad) e2) rfl (zx_vin g) hdg (fun H1 locs1 hP1 hD1 hS1 => K H1 locs1 ls (by rw [zx_w_las g.2]; exact hP1) (by rw [zx_w_las g.2]; exact hD1) hS1 hl)
      · cases h1
    · cases h1
  · cases h1
theorem zx_s_bal (X : zx_Cx p R s m args meth c fx vq ct A sc D t d) (hdg : decode (zx_mb t) pc = .ok (.baload, 1)) (h1 : zx_bal pc L S h nc ns = some (.inl st))
    (K : zx_Go p l e R s m args below meth c Q fx vq ct A D t ad st) : zx_Go p l e R s m args below meth c Q fx vq ct A D t ad (pc, L, S, h, nc, ns) := by
  obtain ⟨hx, hb, -, hown, hts, hK, -, hSt, -, hin⟩ := X
  unfold zx_bal at h1
  split at h1
  · split at h1
    · rename_i i a r g
      obtain rfl := zx_Ni h1
      intro H locs ls hP hD hS hl
      exact va_tb hx hb (hSt.2.2.2.2.1.1 a g.1).2.2.2 hS (zx_vin g.2) rfl hdg (K H locs ls hP hD hS hl)
    · cases h1
  · cases h1
theorem zx_rf_c (o : Option Nat) : va_rf (o.map ad) = zx_c fx vq ad (zx_rf o) := by
  cases o <;> rfl
theorem zx_s_aal (X : zx_Cx p R s m args meth c fx vq ct A sc D t d) (hdg : decode (zx_mb t) pc = .ok (.aaload, 1)) (h1 : zx_aal pc L S h nc ns = some (.inl st))
    (K : zx_Go p l e R s m args below meth c Q fx vq ct A D t ad st) : zx_Go p l e R s m args below meth c Q fx vq ct A D t ad (pc, L, S, h, nc, ns) := by
  obtain ⟨hx, hb, -, hown, hts, hK, -, hSt, -, hin⟩ := X
  unfold zx_aal at h1
  split at h1
  · split at h1
    · rename_i i a r _ t0 f e2
      split at h1
      · rename_i g
        obtain ⟨g0, g⟩ := g
        obtain rfl := zx_Ni h1
        intro H locs ls hP hD hS hl
        have he := zx_w_get (fx := fx) (vq := vq) (ct := ct) (ad := ad) e2
        have k : W p l e R s m args below meth c H locs nc ns Q (F0 m (pc + 1) ls (zx_c fx vq ad (zx_rf ((f[i.toNatClampNeg]?).getD none)) :: r.map (zx_c fx vq ad))) := K H locs ls hP hD hS hl
        rw [← zx_rf_c] at k
        rcases g0 with rfl | rfl
        · exact va_aldq hx hb hK hP _ 2 he rfl (zx_vin g) hdg k
        · exact va_aldq hx hb hK hP _ 3 he rfl (zx_vin g) hdg k
      · cases h1
    · cases h1
  · cases h1
theorem zx_up_set {f : List (Option Nat)} {i v : Nat} (hi : i < f.length) : (fun j : Nat => (((f.set i (some v))[j]?).getD none).map ad) = va_up (fun j : Nat => ((f[j]?).getD none).map ad) i (some (ad v)) := by
  funext j
  unfold va_up
  rw [List.getElem?_set]
  by_cases e : i = j
  · subst e
    rw [if_pos rfl, if_pos rfl, if_pos hi]
    rfl
  · rw [if_neg e, if_neg (fun q => e q.symm)]
theorem zx_s_aas (X : zx_Cx p R s m args meth c fx vq ct A sc D t d) (hdg : decode (zx_mb t) pc = .ok (.aastore, 1)) (h1 : zx_aas pc L S h nc ns = some (.inl st))
    (K : zx_Go p l e R s m args below meth c Q fx vq ct A D t ad st) : zx_Go p l e R s m args below meth c Q fx vq ct A D t ad (pc, L, S, h, nc, ns) := by
  obtain ⟨hx, hb, -, hown, hts, hK, -, hSt, -, hin⟩ := X
  unfold zx_aas at h1
  split at h1
  · split at h1
    · rename_i v i a r _ _ t0 f ci vs e2 e3
      split at h1
      · rename_i g
        obtain ⟨g0, g1, g2⟩ := g
        obtain rfl := zx_Ni h1
        intro H locs ls hP hD hS hl
        have he := zx_w_get (fx := fx) (vq := vq) (ct := ct) (ad := ad) e2
        have hv := zx_w_get (fx := fx) (vq := vq) (ct := ct) (ad := ad) e3
        have ew : zx_w fx vq ct ad (h.set a (.inr (t0, .inr (.inr (f.set i.toNatClampNeg (some v)))))) = (zx_w fx vq ct ad h).set a (ad a, .inl (ct t0, f.length, .inr (.inr (.inr (.inr (va_up (fun j : Nat => ((f[j]?).getD none).map ad) i.toNatClampNeg (some (ad v)))))))) := by
          rw [zx_w_set]
          show (zx_w fx vq ct ad h).set a (ad a, .inl (ct t0, (f.set i.toNatClampNeg (some v)).length, .inr (.inr (.inr (.inr (fun j : Nat => (((f.set i.toNatClampNeg (some v))[j]?).getD none).map ad)))))) = _
          rw [zx_up_set g2, List.length_set]
        have K2 : ∀ (H1 : Heap) (locs1 : List Loc), va_P D zx_cl ((zx_w fx vq ct ad h).set a (ad a, .inl (ct t0, f.length, .inr (.inr (.inr (.inr (va_up (fun j : Nat => ((f[j]?).getD none).map ad) i.toNatClampNeg (some (ad v))))))))) H1 → va_D A ((zx_w fx vq ct ad h).set a (ad a, .inl (ct t0, f.length, .inr (.inr (.inr (.inr (va_up (fun j : Nat => ((f[j]?).getD none).map ad) i.toNatClampNeg (some (ad v))))))))) → va_S A s.heap H1 locs1 → W p l e R s m args below meth c H1 locs1 nc ns Q (F0 m (pc + 1) ls (r.map (zx_c fx vq ad))) := by
          intro H1 locs1 hP1 hD1 hS1
          rw [← ew] at hP1 hD1
          exact K H1 locs1 ls hP1 hD1 hS1 hl
        rcases g0 with ⟨rfl, rfl⟩ | ⟨rfl, rfl⟩
        · exact va_astq hx hb hK hP hD hS _ 2 _ 3 (r := (RX3, TX3, 3)) he rfl hv rfl (zx_vin ⟨g1, g2⟩) hdg K2
        · exact va_astq hx hb hK hP hD hS _ 3 _ 5 (r := (RX5, TX5, 13)) he rfl hv rfl (zx_vin ⟨g1, g2⟩) hdg K2
      · cases h1
    · cases h1
  · cases h1
theorem zx_s_lc (X : zx_Cx p R s m args meth c fx vq ct A sc D t d) {ix : Nat} (hdg : decode (zx_mb t) pc = .ok (.ldc ix, 2)) (h1 : zx_lc (zx_mo t) ix 2 pc L S h nc ns = some (.inl st))
    (hs4 : ∀ i, zx_lk zx_lS 4 ix = some i → ∃ q : String × Nat × Nat, zx_st[i]? = some q ∧ q.2.1 = ix)
    (K : zx_Go p l e R s m args below meth c Q fx vq ct A D t ad st) : zx_Go p l e R s m args below meth c Q fx vq ct A D t ad (pc, L, S, h, nc, ns) := by
  obtain ⟨hx, hb, -, hown, hts, hK, -, hSt, -, hin⟩ := X
  unfold zx_lc at h1
  split at h1
  · rename_i v pp e1
    have hF := zx_cka_use zx_ckI_all e1
    obtain rfl := zx_Ni h1
    intro H locs ls hP hD hS hl
    exact lv_ldc hx hb hown (hts _ (zx_inG_mem hF)) hdg (K H locs ls hP hD hS hl)
  · split at h1
    · split at h1
      · rename_i i e1
        split at h1
        · rename_i g
          obtain ⟨g0, g1⟩ := g
          rw [g0] at e1 hown
          obtain ⟨q, hq1, hq2⟩ := hs4 i e1
          have hR := hSt.2.2.2.1 i q hq1
          rw [hq2] at hR
          obtain rfl := zx_Ni h1
          intro H locs ls hP hD hS hl
          exact va_ldcS hx hb hown hR hdg (K H locs ls hP hD hS hl)
        · cases h1
      · cases h1
    · cases h1
theorem zx_s_lcw (X : zx_Cx p R s m args meth c fx vq ct A sc D t d) {ix : Nat} (hdg : decode (zx_mb t) pc = .ok (.ldc_w ix, 3)) (h1 : zx_lc (zx_mo t) ix 3 pc L S h nc ns = some (.inl st))
    (K : zx_Go p l e R s m args below meth c Q fx vq ct A D t ad st) : zx_Go p l e R s m args below meth c Q fx vq ct A D t ad (pc, L, S, h, nc, ns) := by
  obtain ⟨hx, hb, -, hown, hts, hK, -, hSt, -, hin⟩ := X
  unfold zx_lc at h1
  split at h1
  · rename_i v pp e1
    have hF := zx_cka_use zx_ckI_all e1
    obtain rfl := zx_Ni h1
    intro H locs ls hP hD hS hl
    exact lv_ldcw hx hb hown (hts _ (zx_inG_mem hF)) hdg (K H locs ls hP hD hS hl)
  · split at h1
    · rename_i g
      exact absurd g (by decide)
    · cases h1
theorem zx_s_lc2 (X : zx_Cx p R s m args meth c fx vq ct A sc D t d) {ix : Nat} (hdg : decode (zx_mb t) pc = .ok (.ldc2_w ix, 3)) (h1 : zx_lc2 (zx_mo t) ix pc L S h nc ns = some (.inl st))
    (K : zx_Go p l e R s m args below meth c Q fx vq ct A D t ad st) : zx_Go p l e R s m args below meth c Q fx vq ct A D t ad (pc, L, S, h, nc, ns) := by
  obtain ⟨hx, hb, -, hown, hts, hK, -, hSt, -, hin⟩ := X
  unfold zx_lc2 at h1
  split at h1
  · rename_i v pp e1
    have hF := zx_cka_use zx_ckJ_all e1
    obtain rfl := zx_Ni h1
    intro H locs ls hP hD hS hl
    exact lv_ldc2 hx hb hown (hts _ (zx_inG_mem hF)) hdg (K H locs ls hP hD hS hl)
  · cases h1
end
end
section
/-! part 09: what a step leaves as it is; makings; a call; ends -/
section
variable {p : Program} {l : Launch} {e : Env} {R : Room} {s : State} {m : MethodId} {args : Array Value} {below : List Frame} {meth : Method} {c : Code} {Q : State → Prop}
variable {fx : Nat → Nat → Nat} {vq : Value} {ct : Nat → ClassId} {ad : Nat → Nat} {A : Nat → Prop} {sc : zx_Sc} {D : va_G} {t : zx_MT} {d : Nat}
variable {pc nc ns : Nat} {L : List (Option zx_V)} {S : List zx_V} {h : List zx_C} {st : zx_S}
/-- as many locals, as many cells, nothing made -/
def zx_sm (L : List (Option zx_V)) (h : List zx_C) (nc ns : Nat) (st : zx_S) : Prop := st.2.1.length = L.length ∧ st.2.2.2.1.length = h.length ∧ st.2.2.2.2.1 = nc ∧ st.2.2.2.2.2 = ns
theorem zx_k_ld {ty i n : Nat} (h1 : zx_ld ty i n pc L S h nc ns = some (.inl st)) : zx_sm L h nc ns st := by
  unfold zx_ld at h1
  repeat' split at h1
  all_goals first | (cases h1; done) | (obtain rfl := zx_Ni h1; simp [zx_sm, zx_cl1_len])
theorem zx_k_sto {ty i n : Nat} (h1 : zx_sto ty i n pc L S h nc ns = some (.inl st)) : zx_sm L h nc ns st := by
  unfold zx_sto at h1
  repeat' split at h1
  all_goals first | (cases h1; done) | (obtain rfl := zx_Ni h1; simp [zx_sm, zx_cl1_len])
theorem zx_k_stl {i n : Nat} (h1 : zx_stl i n pc L S h nc ns = some (.inl st)) : zx_sm L h nc ns st := by
  unfold zx_stl at h1
  repeat' split at h1
  all_goals first | (cases h1; done) | (obtain rfl := zx_Ni h1; simp [zx_sm, zx_cl1_len])
theorem zx_k_iinc {i : Nat} {z : Int} (h1 : zx_iinc i z pc L S h nc ns = some (.inl st)) : zx_sm L h nc ns st := by
  unfold zx_iinc at h1
  repeat' split at h1
  all_goals first | (cases h1; done) | (obtain rfl := zx_Ni h1; simp [zx_sm, zx_cl1_len])
theorem zx_k_bin {ins : Instr} (h1 : zx_bin ins pc L S h nc ns = some (.inl st)) : zx_sm L h nc ns st := by
  unfold zx_bin at h1
  repeat' split at h1
  all_goals first | (cases h1; done) | (obtain rfl := zx_Ni h1; simp [zx_sm, zx_cl1_len])
theorem zx_k_un {ins : Instr} (h1 : zx_un ins pc L S h nc ns = some (.inl st)) : zx_sm L h nc ns st := by
  unfold zx_un at h1
  repeat' split at h1
  all_goals first | (cases h1; done) | (obtain rfl := zx_Ni h1; simp [zx_sm, zx_cl1_len])
theorem zx_k_lng {ins : Instr} (h1 : zx_lng ins pc L S h nc ns = some (.inl st)) : zx_sm L h nc ns st := by
  unfold zx_lng at h1
  repeat' split at h1
  all_goals first | (cases h1; done) | (obtain rfl := zx_Ni h1; simp [zx_sm, zx_cl1_len])
theorem zx_k_stk {ins : Instr} (h1 : zx_stk ins pc L S h nc ns = some (.inl st)) : zx_sm L h nc ns st := by
  unfold zx_stk at h1
  repeat' split at h1
  all_goals first | (cases h1; done) | (obtain rfl := zx_Ni h1; simp [zx_sm, zx_cl1_len])
theorem zx_k_J {off : Int} (h1 : zx_J pc off L S h nc ns = some (.inl st)) : zx_sm L h nc ns st := by
  unfold zx_J at h1
  repeat' split at h1
  all_goals first | (cases h1; done) | (obtain rfl := zx_Ni h1; simp [zx_sm, zx_cl1_len])
theorem zx_k_br {b : Bool} {off : Int} (h1 : zx_br b off pc L S h nc ns = some (.inl st)) : zx_sm L h nc ns st := by
  unfold zx_br at h1
  repeat' split at h1
  all_goals first | (cases h1; done) | (obtain rfl := zx_Ni h1; simp [zx_sm, zx_cl1_len])
theorem zx_k_if1 {cn : ClassFile.Cond} {off : Int} (h1 : zx_if1 cn off pc L S h nc ns = some (.inl st)) : zx_sm L h nc ns st := by
  unfold zx_if1 at h1
  repeat' split at h1
  all_goals first | (cases h1; done) | exact zx_k_br h1 | (obtain rfl := zx_Ni h1; simp [zx_sm, zx_cl1_len])
theorem zx_k_if2 {cn : ClassFile.Cond} {off : Int} (h1 : zx_if2 cn off pc L S h nc ns = some (.inl st)) : zx_sm L h nc ns st := by
  unfold zx_if2 at h1
  repeat' split at h1
  all_goals first | (cases h1; done) | exact zx_k_br h1 | (obtain rfl := zx_Ni h1; simp [zx_sm, zx_cl1_len])
theorem zx_k_tsw {dflt lo hi : Int} {offs : Array Int} (h1 : zx_tsw dflt lo hi offs pc L S h nc ns = some (.inl st)) : zx_sm L h nc ns st := by
  unfold zx_tsw at h1
  repeat' split at h1
  all_goals first | (cases h1; done) | exact zx_k_J h1 | (obtain rfl := zx_Ni h1; simp [zx_sm, zx_cl1_len])
theorem zx_k_lsw {dflt : Int} {ps : Array (Int × Int)} (h1 : zx_lsw dflt ps pc L S h nc ns = some (.inl st)) : zx_sm L h nc ns st := by
  unfold zx_lsw at h1
  repeat' split at h1
  all_goals first | (cases h1; done) | exact zx_k_J h1 | (obtain rfl := zx_Ni h1; simp [zx_sm, zx_cl1_len])
theorem zx_k_gf {o ix : Nat} (h1 : zx_gf o ix pc L S h nc ns = some (.inl st)) : zx_sm L h nc ns st := by
  unfold zx_gf at h1
  repeat' split at h1
  all_goals first | (cases h1; done) | (obtain rfl := zx_Ni h1; simp [zx_sm, zx_cl1_len])
theorem zx_k_pf {o kd ix : Nat} (h1 : zx_pf o kd ix pc L S h nc ns = some (.inl st)) : zx_sm L h nc ns st := by
  unfold zx_pf at h1
  repeat' split at h1
  all_goals first | (cases h1; done) | (obtain rfl := zx_Ni h1; simp [zx_sm, zx_cl1_len])
theorem zx_k_gs {o ix : Nat} (h1 : zx_gs o ix pc L S h nc ns = some (.inl st)) : zx_sm L h nc ns st := by
  unfold zx_gs at h1
  repeat' split at h1
  all_goals first | (cases h1; done) | (obtain rfl := zx_Ni h1; simp [zx_sm, zx_cl1_len])
theorem zx_k_al  (h1 : zx_al sc pc L S h nc ns = some (.inl st)) : zx_sm L h nc ns st := by
  unfold zx_al at h1
  repeat' split at h1
  all_goals first | (cases h1; done) | (obtain rfl := zx_Ni h1; simp [zx_sm, zx_cl1_len])
theorem zx_k_ial  (h1 : zx_ial sc pc L S h nc ns = some (.inl st)) : zx_sm L h nc ns st := by
  unfold zx_ial at h1
  repeat' split at h1
  all_goals first | (cases h1; done) | (obtain rfl := zx_Ni h1; simp [zx_sm, zx_cl1_len])
theorem zx_k_ias  (h1 : zx_ias pc L S h nc ns = some (.inl st)) : zx_sm L h nc ns st := by
  unfold zx_ias at h1
  repeat' split at h1
  all_goals first | (cases h1; done) | (obtain rfl := zx_Ni h1; simp [zx_sm, zx_cl1_len])
theorem zx_k_lal  (h1 : zx_lal pc L S h nc ns = some (.inl st)) : zx_sm L h nc ns st := by
  unfold zx_lal at h1
  repeat' split at h1
  all_goals first | (cases h1; done) | (obtain rfl := zx_Ni h1; simp [zx_sm, zx_cl1_len])
theorem zx_k_las  (h1 : zx_las pc L S h nc ns = some (.inl st)) : zx_sm L h nc ns st := by
  unfold zx_las at h1
  repeat' split at h1
  all_goals first | (cases h1; done) | (obtain rfl := zx_Ni h1; simp [zx_sm, zx_cl1_len])
theorem zx_k_bal  (h1 : zx_bal pc L S h nc ns = some (.inl st)) : zx_sm L h nc ns st := by
  unfold zx_bal at h1
  repeat' split at h1
  all_goals first | (cases h1; done) | (obtain rfl := zx_Ni h1; simp [zx_sm, zx_cl1_len])
theorem zx_k_aal  (h1 : zx_aal pc L S h nc ns = some (.inl st)) : zx_sm L h nc ns st := by
  unfold zx_aal at h1
  repeat' split at h1
  all_goals first | (cases h1; done) | (obtain rfl := zx_Ni h1; simp [zx_sm, zx_cl1_len])
theorem zx_k_aas  (h1 : zx_aas pc L S h nc ns = some (.inl st)) : zx_sm L h nc ns st := by
  unfold zx_aas at h1
  repeat' split at h1
  all_goals first | (cases h1; done) | (obtain rfl := zx_Ni h1; simp [zx_sm, zx_cl1_len])
theorem zx_k_lc {o ix n : Nat} (h1 : zx_lc o ix n pc L S h nc ns = some (.inl st)) : zx_sm L h nc ns st := by
  unfold zx_lc at h1
  repeat' split at h1
  all_goals first | (cases h1; done) | (obtain rfl := zx_Ni h1; simp [zx_sm, zx_cl1_len])
theorem zx_k_lc2 {o ix : Nat} (h1 : zx_lc2 o ix pc L S h nc ns = some (.inl st)) : zx_sm L h nc ns st := by
  unfold zx_lc2 at h1
  repeat' split at h1
  all_goals first | (cases h1; done) | (obtain rfl := zx_Ni h1; simp [zx_sm, zx_cl1_len])
theorem zx_k_ac  (h1 : zx_ac pc L S h nc ns = some (.inl st)) : zx_sm L h nc ns st := by
  unfold zx_ac at h1
  repeat' split at h1
  all_goals first | (cases h1; done) | (obtain rfl := zx_Ni h1; simp [zx_sm, zx_cl1_len])
/-- the addresses behind a step -/
def zx_ext (ad : Nat → Nat) (h : List zx_C) (ad' : Nat → Nat) (h' : List zx_C) : Prop := h.length ≤ h'.length ∧ (∀ i, i < h.length → ad' i = ad i) ∧ (h'.length = h.length → ad' = ad)
theorem zx_ext_sm {h' : List zx_C} (e : h'.length = h.length) : zx_ext ad h ad h' := ⟨by omega, fun _ _ => rfl, fun _ => rfl⟩
theorem zx_ext_tr {ad1 ad2 : Nat → Nat} {h1 h2 : List zx_C} (a : zx_ext ad h ad1 h1) (b : zx_ext ad1 h1 ad2 h2) : zx_ext ad h ad2 h2 := by
  obtain ⟨a1, a2, a3⟩ := a
  obtain ⟨b1, b2, b3⟩ := b
  refine ⟨by omega, fun i hi => ?_, fun q => ?_⟩
  · rw [b2 i (by omega), a2 i hi]
  · rw [b3 (by omega), a3 (by omega)]
theorem zx_df_ok {ci : Nat} (h : ci < 9) (k : Nat) (fx : Nat → Nat → Nat) (vq : Value) (ad : Nat → Nat) : zx_c fx vq ad (zx_df (zx_ft ci k)) = defaultValue (zx_ft ci k) := by
  rcases (show ci = 0 ∨ ci = 1 ∨ ci = 2 ∨ ci = 3 ∨ ci = 4 ∨ ci = 5 ∨ ci = 6 ∨ ci = 7 ∨ ci = 8 by omega) with rfl | rfl | rfl | rfl | rfl | rfl | rfl | rfl | rfl
  · show zx_c fx vq ad (zx_df (tyX0 k)) = defaultValue (tyX0 k); unfold tyX0; split <;> rfl
  · show zx_c fx vq ad (zx_df (tyX1 k)) = defaultValue (tyX1 k); unfold tyX1; split <;> rfl
  · show zx_c fx vq ad (zx_df (tyX2 k)) = defaultValue (tyX2 k); unfold tyX2; split <;> rfl
  · show zx_c fx vq ad (zx_df (tyX3 k)) = defaultValue (tyX3 k); unfold tyX3; split <;> rfl
  · show zx_c fx vq ad (zx_df (tyX4 k)) = defaultValue (tyX4 k); unfold tyX4; split <;> rfl
  · show zx_c fx vq ad (zx_df (tyX5 k)) = defaultValue (tyX5 k); unfold tyX5; split <;> rfl
  · show zx_c fx vq ad (zx_df (tyX6 k)) = defaultValue (tyX6 k); unfold tyX6; split <;> rfl
  · show zx_c fx vq ad (zx_df (tyX7 k)) = defaultValue (tyX7 k); unfold tyX7; split <;> rfl
  · show zx_c fx vq ad (zx_df (tyX8 k)) = defaultValue (tyX8 k); unfold tyX8; split <;> rfl
theorem zx_okL (h1 : zx_ok L S h = true) : L.all (zx_vo h.length) = true ∧ S.all (zx_vl h.length) = true ∧ h.all (zx_vc h.length) = true := by
  unfold zx_ok at h1
  rw [Bool.and_eq_true, Bool.and_eq_true] at h1
  exact h1
theorem zx_up_lt {n q : Nat} : ∀ i, i < n → va_up ad n q i = ad i := fun i hi => by unfold va_up; rw [if_neg (by omega)]
theorem zx_up_eq {n q : Nat} : va_up ad n q n = q := by unfold va_up; rw [if_pos rfl]
theorem zx_ext_new {q : Nat} {x : zx_C} : zx_ext ad h (va_up ad h.length q) (h ++ [x]) := ⟨by simp, zx_up_lt, fun z => by simp at z⟩
/-- behind a making: the state with the new cell -/
theorem zx_made {q : Nat} {x : zx_C} {n mc ms : Nat} {r : List zx_V} {H1 : Heap} {locs1 : List Loc} {ls : Array Slot} (hok : zx_ok L r h = true) {en : va_E} (hen : zx_e fx vq ct (va_up ad h.length q) x = en)
    (K : ∀ ad', zx_ext ad h ad' (h ++ [x]) → zx_Go p l e R s m args below meth c Q fx vq ct A D t ad' (pc + n, L, .inr (.inr (1, h.length)) :: r, h ++ [x], mc, ms))
    (hP1 : va_P D zx_cl (zx_w fx vq ct ad h ++ [(q, en)]) H1) (hD1 : va_D A (zx_w fx vq ct ad h ++ [(q, en)])) (hS1 : va_S A s.heap H1 locs1) (hl : lv_has ls (zx_mn t) (zx_l fx vq ad L)) :
    W p l e R s m args below meth c H1 locs1 mc ms Q (F0 m (pc + n) ls (.ref q :: r.map (zx_c fx vq ad))) := by
  obtain ⟨o1, o2, o3⟩ := zx_okL hok
  have k := K (va_up ad h.length q) zx_ext_new H1 locs1 ls (by rw [zx_w_app o3, hen]; exact hP1) (by rw [zx_w_app o3, hen]; exact hD1) hS1 (zx_l_sub hl (zx_l_ad zx_up_lt o1))
  have k2 : W p l e R s m args below meth c H1 locs1 mc ms Q (F0 m (pc + n) ls (.ref (va_up ad h.length q h.length) :: r.map (zx_c fx vq (va_up ad h.length q)))) := k
  rw [zx_up_eq, zx_S_ad zx_up_lt o2] at k2
  exact k2
theorem zx_s_new (X : zx_Cx p R s m args meth c fx vq ct A sc D t d) {ix : Nat} (hdg : decode (zx_mb t) pc = .ok (.new ix, 3)) (h1 : zx_new (zx_mo t) ix pc L S h nc ns = some (.inl st)) (hR : st.2.2.2.2.1 ≤ R.cells ∧ st.2.2.2.2.2 ≤ R.slots)
    (K : ∀ ad', zx_ext ad h ad' st.2.2.2.1 → zx_Go p l e R s m args below meth c Q fx vq ct A D t ad' st) : zx_Go p l e R s m args below meth c Q fx vq ct A D t ad (pc, L, S, h, nc, ns) := by
  obtain ⟨hx, hb, -, hown, hts, hK, hA, hSt, -, hin⟩ := X
  unfold zx_new at h1
  split at h1
  · rename_i ci pp e1
    have hC := zx_cka_use zx_ckC_all e1
    rw [Bool.and_eq_true] at hC
    split at h1
    · rename_i g
      obtain ⟨hci, hok⟩ := g
      obtain rfl := zx_Ni h1
      have hpI := List.all_eq_true.mp zx_ckP ci (List.mem_range.mpr hci)
      split at hpI
      · rename_i q9 e9
        rw [Bool.and_eq_true] at hpI
        intro H locs ls hP hD hS hl
        refine va_new (fs := ((List.range (zx_fn ci)).map (fun k => zx_df (zx_ft ci k))).map (zx_c fx vq ad)) hx hb hts (zx_hin hci) (zx_ft ci) (zx_ok9 hci).1 hown (hts _ (zx_inG_mem hC.1)) (hts _ (zx_inG_mem hpI.1)) (hts _ (zx_inG_mem hpI.2)) hK hP hD hS hA (zx_clk hci) ?_ hR.1 hR.2 hdg ?_
        · intro j hj
          show _ = (((List.range (zx_fn ci)).map (fun k => zx_df (zx_ft ci k))).map (zx_c fx vq ad)).getD j .null
          rw [List.getD_eq_getElem?_getD, List.getElem?_map, List.getElem?_map, List.getElem?_range hj]
          exact (zx_df_ok hci j fx vq ad).symm
        · intro q H1 hP1 hD1 hS1
          refine zx_made hok ?_ K hP1 hD1 hS1 hl
          show Sum.inr (ci, ((List.range (zx_fn ci)).map (fun k => zx_df (zx_ft ci k))).map _) = Sum.inr (ci, ((List.range (zx_fn ci)).map (fun k => zx_df (zx_ft ci k))).map _)
          rw [List.map_map, List.map_map]
          have e : (zx_c fx vq (va_up ad h.length q) ∘ fun k => zx_df (zx_ft ci k)) = (zx_c fx vq ad ∘ fun k => zx_df (zx_ft ci k)) := by
            funext k
            exact (zx_df_ok hci k fx vq _).trans (zx_df_ok hci k fx vq _).symm
          rw [e]
      · cases hpI
    · cases h1
  · cases h1
theorem zx_ca {cA : ClassId} {ty : FieldType} {i : Nat} (hK : va_K D zx_cl (zx_tys ct ++ [(cA, ty)]) s) (hi : (zx_tys ct)[i]? = some (ct i, ty)) (hi4 : i < 4) : cA = ct i := by
  have h1 := (hK.2 4 (cA, ty) (by rfl)).2
  have h2 := (hK.2 i (ct i, ty) (by rw [List.getElem?_append_left (by exact hi4)]; exact hi)).2
  cases ty with
  | object C =>
    obtain ⟨_, _, _, _, _, a⟩ := h1
    obtain ⟨_, _, _, _, _, b⟩ := h2
    exact Option.some.inj (a.symm.trans b)
  | _ => exact Option.some.inj ((show s.vm.findClass _ = some cA from h1).symm.trans h2)
theorem zx_rep0 {α : Type} {d0 : α} (n : Nat) : (fun j : Nat => (List.replicate n d0).getD j d0) = fun _ => d0 := by
  funext j
  rw [List.getD_eq_getElem?_getD, List.getElem?_replicate]
  split <;> rfl
theorem zx_s_na (X : zx_Cx p R s m args meth c fx vq ct A sc D t d) {ty : ArrayType} (hdg : decode (zx_mb t) pc = .ok (.newarray ty, 2)) (h1 : zx_na ty pc L S h nc ns = some (.inl st)) (hR : st.2.2.2.2.1 ≤ R.cells ∧ st.2.2.2.2.2 ≤ R.slots)
    (K : ∀ ad', zx_ext ad h ad' st.2.2.2.1 → zx_Go p l e R s m args below meth c Q fx vq ct A D t ad' st) : zx_Go p l e R s m args below meth c Q fx vq ct A D t ad (pc, L, S, h, nc, ns) := by
  obtain ⟨hx, hb, -, hown, hts, hK, hA, hSt, -, hin⟩ := X
  have hX := zx_ckX
  simp only [Bool.and_eq_true] at hX
  unfold zx_na at h1
  split at h1
  · rename_i x r
    split at h1
    · rename_i g
      obtain ⟨g1, g2, hok⟩ := g
      split at h1
      · obtain rfl := zx_Ni h1
        intro H locs ls hP hD hS hl
        refine va_newa (atype := .int) (ty := .int) (a0 := (x.toNatClampNeg, .inl (fun _ => 0))) hx hb (hts _ (zx_inG_mem hX.1)) rfl hK hP hD hS hA (fun _ => rfl) g1 rfl (by show _ * 4 ≤ _; omega) hR.1 hR.2 hdg ?_
        intro q cA H1 hK1 hP1 hD1 hS1
        have e := zx_ca hK1 (i := 0) rfl (by decide)
        subst e
        exact zx_made hok (by show Sum.inl (ct 0, (List.replicate x.toNatClampNeg (0 : Int32)).length, Sum.inl (fun j : Nat => (List.replicate x.toNatClampNeg (0 : Int32)).getD j 0)) = _; rw [zx_rep0, List.length_replicate]) K hP1 hD1 hS1 hl
      · obtain rfl := zx_Ni h1
        intro H locs ls hP hD hS hl
        refine va_newa (atype := .long) (ty := .long) (a0 := (x.toNatClampNeg, .inr (.inl (fun _ => 0)))) hx hb (hts _ (zx_inG_mem hX.2.1)) rfl hK hP hD hS hA (fun _ => rfl) g1 rfl (by show _ * 8 ≤ _; omega) hR.1 hR.2 hdg ?_
        intro q cA H1 hK1 hP1 hD1 hS1
        have e := zx_ca hK1 (i := 1) rfl (by decide)
        subst e
        exact zx_made hok (by show Sum.inl (ct 1, (List.replicate x.toNatClampNeg (0 : Int64)).length, Sum.inr (Sum.inl (fun j : Nat => (List.replicate x.toNatClampNeg (0 : Int64)).getD j 0))) = _; rw [zx_rep0, List.length_replicate]) K hP1 hD1 hS1 hl
      · cases h1
    · cases h1
  · cases h1
theorem zx_s_an (X : zx_Cx p R s m args meth c fx vq ct A sc D t d) {ix : Nat} (hdg : decode (zx_mb t) pc = .ok (.anewarray ix, 3)) (h1 : zx_an (zx_mo t) ix pc L S h nc ns = some (.inl st)) (hR : st.2.2.2.2.1 ≤ R.cells ∧ st.2.2.2.2.2 ≤ R.slots)
    (K : ∀ ad', zx_ext ad h ad' st.2.2.2.1 → zx_Go p l e R s m args below meth c Q fx vq ct A D t ad' st) : zx_Go p l e R s m args below meth c Q fx vq ct A D t ad (pc, L, S, h, nc, ns) := by
  obtain ⟨hx, hb, -, hown, hts, hK, hA, hSt, -, hin⟩ := X
  have hrep : ∀ (n : Nat) (ad2 : Nat → Nat), (fun j : Nat => (((List.replicate n (none : Option Nat))[j]?).getD none).map ad2) = fun _ => none := by
    intro n ad2
    funext j
    rw [List.getElem?_replicate]
    split <;> rfl
  unfold zx_an at h1
  split at h1
  · rename_i x r
    split at h1
    · rename_i g
      obtain ⟨g1, g2, hok⟩ := g
      split at h1
      · rename_i e1
        have hC := zx_cka_use zx_ckC_all e1
        rw [Bool.and_eq_true] at hC
        obtain rfl := zx_Ni h1
        intro H locs ls hP hD hS hl
        refine va_newq (C := RX3) hx hb hown (hts _ (zx_inG_mem hC.1)) hSt.2.1 hK hP hD hS hA g1 rfl (by omega) hR.1 hR.2 hdg ?_
        intro q cA H1 hK1 hP1 hD1 hS1
        have e := zx_ca hK1 (i := 2) rfl (by decide)
        subst e
        exact zx_made hok (by show Sum.inl (ct 2, (List.replicate x.toNatClampNeg (none : Option Nat)).length, _) = _; rw [hrep, List.length_replicate]) K hP1 hD1 hS1 hl
      · rename_i e1
        have hC := zx_cka_use zx_ckC_all e1
        rw [Bool.and_eq_true] at hC
        obtain rfl := zx_Ni h1
        intro H locs ls hP hD hS hl
        refine va_newq (C := RX5) hx hb hown (hts _ (zx_inG_mem hC.1)) hSt.2.2.1 hK hP hD hS hA g1 rfl (by omega) hR.1 hR.2 hdg ?_
        intro q cA H1 hK1 hP1 hD1 hS1
        have e := zx_ca hK1 (i := 3) rfl (by decide)
        subst e
        exact zx_made hok (by show Sum.inl (ct 3, (List.replicate x.toNatClampNeg (none : Option Nat)).length, _) = _; rw [hrep, List.length_replicate]) K hP1 hD1 hS1 hl
      · cases h1
    · cases h1
  · cases h1
end
end
section
/-! part 10: calls -/
section
variable {p : Program} {l : Launch} {e : Env} {R : Room} {s : State} {m : MethodId} {args : Array Value} {below : List Frame} {meth : Method} {c : Code} {Q : State → Prop}
variable {fx : Nat → Nat → Nat} {vq : Value} {ct : Nat → ClassId} {ad : Nat → Nat} {A : Nat → Prop} {sc : zx_Sc} {D : va_G} {t : zx_MT} {d : Nat}
variable {pc nc ns : Nat} {L : List (Option zx_V)} {S : List zx_V} {h : List zx_C} {st : zx_S}
theorem zx_nw_k {w : Cond} (h : w ∈ zx_nw) : zx_isN w = true := (List.mem_filter.mp h).2
theorem zx_St_go {u U : State} {H : Heap} (hvm : u.vm.Alike U.vm) (h1 : ∀ w ∈ zx_nw, va_Nw w U) (h2 : ∀ i : Nat, ∀ q : String × Nat × Nat, zx_st[i]? = some q → vk_R RX4 q.2.1 q.1 (fx 2 i) U) (hS : zx_St fx vq A sc u H) : zx_St fx vq A sc U H := by
  obtain ⟨-, a2, a3, -, a5, a6, a7, a8, a9, a10⟩ := hS
  exact ⟨h1, va_AO.moved hvm a2, va_AO.moved hvm a3, h2, vk_S.moved hvm a5, fun i hi => ⟨va_Z.moved hvm (a6 i hi).1, va_T.moved hvm (a6 i hi).2⟩, va_Z.moved hvm a7, va_Z.moved hvm a8, a9, fun q e => ⟨va_X.moved hvm (a10 q e).1, (a10 q e).2⟩⟩
theorem zx_St_same {u U : State} {H : Heap} (hv : U.vm = u.vm) (hS : zx_St fx vq A sc u H) : zx_St fx vq A sc U H := by
  refine zx_St_go (by rw [hv]; exact Vm.Alike.refl _) (fun w hw => ?_) (fun i q hi => vk_R.same hv (hS.2.2.2.1 i q hi)) hS
  have h1 := zx_nw_k hw
  have h2 := hS.1 w hw
  cases w <;> first | exact va_Nw.same rfl hv.symm h2 | (exact absurd h1 (by intro z; cases z))
theorem zx_St_warm {u U : State} {H : Heap} (hW : u.WarmedH U.vm) (hS : zx_St fx vq A sc u H) : zx_St fx vq A sc U H := by
  refine zx_St_go hW.alike (fun w hw => ?_) (fun i q hi => vk_R.warm hW (hS.2.2.2.1 i q hi)) hS
  have h1 := zx_nw_k hw
  have h2 := hS.1 w hw
  cases w <;> first | exact va_Nw.warmF hW h2 | exact va_Nw.warmM hW h2 | (exact absurd h1 (by intro z; cases z))
theorem zx_St_kept {U : State} {H H1 : Heap} (hq : ∀ a : Nat, a < H.size → ¬ A a → H1[a]? = H[a]?) (hz : H.size ≤ H1.size) (hS : zx_St fx vq A sc U H) : zx_St fx vq A sc U H1 := by
  obtain ⟨a1, a2, a3, a4, a5, a6, a7, a8, a9, a10⟩ := hS
  exact ⟨a1, a2, a3, a4, vk_S.kept a5 hq, fun i hi => ⟨va_Z.kept (a6 i hi).1 hq, va_T.kept (a6 i hi).2 hq⟩, va_Z.kept a7 hq, va_Z.kept a8 hq, a9, fun q e => ⟨va_X.kept (a10 q e).1 (hq _ (a10 q e).2.1 (a10 q e).2.2), Nat.lt_of_lt_of_le (a10 q e).2.1 hz, (a10 q e).2.2⟩⟩
theorem zx_St_none {U : State} {H : Heap} (hS : zx_St fx vq A sc U H) : zx_St fx vq A none U H := by
  obtain ⟨a1, a2, a3, a4, a5, a6, a7, a8, a9, -⟩ := hS
  exact ⟨a1, a2, a3, a4, a5, a6, a7, a8, a9, fun q e => by cases e⟩
/-- what a method finds -/
def zx_Wd (fx : Nat → Nat → Nat) (vq : Value) (ct : Nat → ClassId) (A : Nat → Prop) (sc : zx_Sc) (D : va_G) (ad : Nat → Nat) (h : List zx_C) (U : State) : Prop :=
  va_P D zx_cl (zx_w fx vq ct ad h) U.heap ∧ va_D A (zx_w fx vq ct ad h) ∧ va_K D zx_cl (zx_tys ct) U ∧ (∀ q : Nat, U.heap.size ≤ q → A q) ∧ zx_St fx vq A sc U U.heap
/-- what a method leaves -/
def zx_Qc (fx : Nat → Nat → Nat) (vq : Value) (ct : Nat → ClassId) (A : Nat → Prop) (D : va_G) (ad : Nat → Nat) (h : List zx_C) (r : zx_R) : Array Value → State → Outcome → State → Prop := fun _ st oc t =>
  (∃ ad' : Nat → Nat, oc = .returned (r.1.map (zx_c fx vq ad')) ∧ zx_ext ad h ad' r.2.1 ∧ va_P D zx_cl (zx_w fx vq ct ad' r.2.1) t.heap ∧ va_D A (zx_w fx vq ct ad' r.2.1)) ∧ va_F A st t
def zx_ws (k : Nat) : List Cond := Cond.code (zx_my (zx_m k)) (zx_mb (zx_m k)) (zx_mn (zx_m k)) (zx_mr (zx_m k)) :: zx_G
def zx_rm (d : Nat) (r : zx_R) : Room := { frames := d + 1, cells := r.2.2.1, slots := r.2.2.2, locals := 40 * d + 40 }
def zx_Met (l : Launch) (fx : Nat → Nat → Nat) (vq : Value) (ct : Nat → ClassId) (A : Nat → Prop) (sc : zx_Sc) (D : va_G) (d k : Nat) (as : List zx_V) (h : List zx_C) (r : zx_R) (ad : Nat → Nat) : Prop :=
  Met l (zx_my (zx_m k)) (zx_ws k) (zx_rm d r) (va_Pc (as.map (zx_c fx vq ad)) (zx_Wd fx vq ct A sc D ad h)) (zx_Qc fx vq ct A D ad h r) r.2.2.1 r.2.2.2 A
theorem zx_blind {av : List Value} {ad : Nat → Nat} {h : List zx_C} : FrameBlind (va_Pc av (zx_Wd fx vq ct A sc D ad h)) := fun a U g mk q => ⟨q.1, q.2.1, q.2.2.1, va_K.moved (u := U) (U := U.calling g mk a) (Vm.Alike.refl U.vm) q.2.2.2.1, q.2.2.2.2.1, zx_St_same (u := U) (U := U.calling g mk a) rfl q.2.2.2.2.2⟩
theorem zx_in {H : Heap} {locs : List Loc} (X : zx_Cx p R s m args meth c fx vq ct A sc D t d) (hP : va_P D zx_cl (zx_w fx vq ct ad h) H) (hD : va_D A (zx_w fx vq ct ad h)) (hS : va_S A s.heap H locs) (as : List zx_V) : ∀ U : State, U.heap = H → s.WarmedH U.vm → va_Pc (as.map (zx_c fx vq ad)) (zx_Wd fx vq ct A none D ad h) (as.map (zx_c fx vq ad)).toArray U := by
  obtain ⟨-, -, -, -, -, hK, hA, hSt, -, -⟩ := X
  intro U hU hW
  refine ⟨rfl, by rw [hU]; exact hP, hD, va_K.moved hW.alike hK, fun q hq => hA q (Nat.le_trans hS.1 (by rw [hU] at hq; exact hq)), ?_⟩
  rw [hU]
  exact zx_St_none (zx_St_kept hS.2.1 hS.1 (zx_St_warm hW hSt))
theorem zx_call {r : zx_R} {rest st0 : List Value} {ls : Array Slot} {a : Array Value} {H : Heap} {locs : List Loc} (hr : va_Run p l e R s m args below meth c H locs nc ns r.2.2.1 r.2.2.2 (F0 m pc ls st0) rest (zx_Qc fx vq ct A D ad h r a) A) (hS : va_S A s.heap H locs)
    (kk : ∀ (ad' : Nat → Nat) (H1 : Heap) (locs1 : List Loc), zx_ext ad h ad' r.2.1 → va_P D zx_cl (zx_w fx vq ct ad' r.2.1) H1 → va_D A (zx_w fx vq ct ad' r.2.1) → va_S A s.heap H1 locs1 → W p l e R s m args below meth c H1 locs1 (nc + r.2.2.1) (ns + r.2.2.2) Q (F0 m (pc + 3) ls ((r.1.map (zx_c fx vq ad')).toList ++ rest))) : W p l e R s m args below meth c H locs nc ns Q (F0 m pc ls st0) := by
  intro T hT X
  obtain ⟨v, st₀, t, T', L, h0, X', hL, e1, e2, ⟨⟨ad', hv, hx, hP, hD⟩, hz, hk⟩, st⟩ := hr T hT X
  have hv' : v = r.1.map (zx_c fx vq ad') := by
    injection hv
  subst hv'
  rw [h0] at hz hk
  obtain ⟨t2, a1, b1⟩ := kk ad' T'.heap (locs ++ L) hx (by rw [e1]; exact hP) hD
    ⟨Nat.le_trans hS.1 (by rw [e1]; exact hz), fun q h1 h2 => by rw [e1, hk q (Nat.lt_of_lt_of_le h1 hS.1) h2]; exact hS.2.1 q h1 h2, fun q hq => by
      rcases List.mem_append.mp hq with h | h
      · exact hS.2.2 q h
      · exact hL q h⟩ T' rfl X'
  exact ⟨t2, st t2 a1, b1⟩
theorem zx_retI {ro : Option zx_R} {r : List zx_V} (h1 : zx_ret pc L r h nc ns ro = some (.inl st)) : ∃ q : zx_R, ro = some q ∧ (q.2.1.length = h.length ∨ zx_ok L r h = true) ∧ st = (pc + 3, L, q.1.toList ++ r, q.2.1, nc + q.2.2.1, ns + q.2.2.2) := by
  unfold zx_ret at h1
  split at h1
  · rename_i v h' mc ms
    split at h1
    · rename_i g
      exact ⟨(v, h', mc, ms), rfl, g, zx_Ni h1⟩
    · cases h1
  · cases h1
/-- a call's end, put back beside the caller's own values -/
theorem zx_back {q : zx_R} {r : List zx_V} {st0 : List Value} {ls : Array Slot} {a : Array Value} {H : Heap} {locs : List Loc} (hor : q.2.1.length = h.length ∨ zx_ok L r h = true)
    (hr : va_Run p l e R s m args below meth c H locs nc ns q.2.2.1 q.2.2.2 (F0 m pc ls st0) (r.map (zx_c fx vq ad)) (zx_Qc fx vq ct A D ad h q a) A) (hS : va_S A s.heap H locs) (hl : lv_has ls (zx_mn t) (zx_l fx vq ad L))
    (K : ∀ ad', zx_ext ad h ad' q.2.1 → zx_Go p l e R s m args below meth c Q fx vq ct A D t ad' (pc + 3, L, q.1.toList ++ r, q.2.1, nc + q.2.2.1, ns + q.2.2.2)) : W p l e R s m args below meth c H locs nc ns Q (F0 m pc ls st0) := by
  refine zx_call hr hS (fun ad' H1 locs1 hx hP1 hD1 hS1 => ?_)
  have hb : r.map (zx_c fx vq ad') = r.map (zx_c fx vq ad) ∧ ∀ z ∈ zx_l fx vq ad' L, z ∈ zx_l fx vq ad L := by
    rcases hor with e1 | e1
    · rw [hx.2.2 e1]
      exact ⟨rfl, fun _ z => z⟩
    · obtain ⟨o1, o2, -⟩ := zx_okL e1
      exact ⟨zx_S_ad hx.2.1 o2, zx_l_ad hx.2.1 o1⟩
  have k : W p l e R s m args below meth c H1 locs1 (nc + q.2.2.1) (ns + q.2.2.2) Q (F0 m (pc + 3) ls ((q.1.toList ++ r).map (zx_c fx vq ad'))) := K ad' hx H1 locs1 ls hP1 hD1 hS1 (zx_l_sub hl hb.2)
  rw [List.map_append, hb.1] at k
  have e2 : q.1.toList.map (zx_c fx vq ad') = (q.1.map (zx_c fx vq ad')).toList := by cases q.1 <;> rfl
  rw [e2] at k
  exact k
theorem zx_gi {ws : List Cond} (hw : ∀ w ∈ ws, w ∈ zx_G) : GoodIn zx_G ws := fun w h => ⟨hw w h, good_of_word (List.mem_filter.mp (hw w h)).2⟩
theorem zx_zip {α β : Type} {x : α} : ∀ {a : List α} {b : List β}, x ∈ a → a.length ≤ b.length → ∃ y, (x, y) ∈ a.zip b
  | [], _, h, _ => absurd h List.not_mem_nil
  | _ :: _, [], _, hl => absurd hl (by simp)
  | z :: a, y :: b, h, hl => by
    rcases List.mem_cons.mp h with rfl | h
    · exact ⟨y, by simp⟩
    · obtain ⟨w, hw⟩ := zx_zip h (b := b) (by simpa using hl)
      exact ⟨w, by simp [hw]⟩
theorem zx_mk_chunk {a : List zx_MT} {n : Nat} (hc : (a.zip (zx_mc.drop n)).all (fun q => zx_ckm q.1 q.2) = true) (hl : a.length ≤ (zx_mc.drop n).length) : ∀ x ∈ a, ∃ q, zx_ckm x q = true := by
  intro x hx
  obtain ⟨y, hy⟩ := zx_zip hx hl
  exact ⟨y, List.all_eq_true.mp hc (x, y) hy⟩
set_option maxRecDepth 100000 in
theorem zx_mok : ∀ x ∈ zx_ml, ∃ q, zx_ckm x q = true := by
  show ∀ x ∈ zx_ml_0 ++ zx_ml_1 ++ zx_ml_2 ++ zx_ml_3 ++ zx_ml_4 ++ zx_ml_5, _
  exact List.forall_mem_append.mpr ⟨List.forall_mem_append.mpr ⟨List.forall_mem_append.mpr ⟨List.forall_mem_append.mpr ⟨List.forall_mem_append.mpr ⟨zx_mk_chunk zx_ckM_0 (by decide +kernel), zx_mk_chunk zx_ckM_1 (by decide +kernel)⟩, zx_mk_chunk zx_ckM_2 (by decide +kernel)⟩, zx_mk_chunk zx_ckM_3 (by decide +kernel)⟩, zx_mk_chunk zx_ckM_4 (by decide +kernel)⟩, zx_mk_chunk zx_ckM_5 (by decide +kernel)⟩
theorem zx_m_mem {k : Nat} (hk : k < 221) : zx_m k ∈ zx_ml := by
  unfold zx_m
  rw [List.getElem?_eq_getElem (by rw [zx_ml_len.1]; exact hk)]
  exact List.getElem_mem _
theorem zx_ws_in {k : Nat} (hk : k < 221) : ∀ w ∈ zx_ws k, w ∈ zx_G := by
  intro w hw
  rcases List.mem_cons.mp hw with rfl | hw
  · exact zx_kc _ (zx_m_mem hk)
  · exact hw
/-- what a program has decided of a method -/
theorem zx_mfacts {k : Nat} (hk : k < 221) : Cond.initialized (zx_my (zx_m k)).cls ∈ zx_G ∧ zx_o (zx_mo (zx_m k)) = (zx_my (zx_m k)).cls ∧ zx_mn (zx_m k) ≤ 20 ∧ (zx_my (zx_m k)).cls ≠ "java/lang/invoke/MethodHandle" ∧ (zx_my (zx_m k)).cls ≠ "java/lang/invoke/VarHandle" ∧ (parseMethodDescriptor (zx_my (zx_m k)).desc).map (fun d => d.parameters.length) = some (zx_mp (zx_m k)) ∧
    (zx_mk (zx_m k) = 0 → Cond.instanceMethod (zx_my (zx_m k)) ∈ zx_G ∧ Cond.selects (zx_my (zx_m k)).cls (zx_my (zx_m k)) (zx_my (zx_m k)) ∈ zx_G ∧ plainName (zx_my (zx_m k)).cls = true) ∧
    (zx_mk (zx_m k) = 1 → Cond.static (zx_my (zx_m k)) ∈ zx_G ∧ plainName (zx_my (zx_m k)).cls = true) ∧
    (zx_mk (zx_m k) = 2 → Cond.instanceMethod (zx_my (zx_m k)) ∈ zx_G ∧ (zx_my (zx_m k)).name = "<init>" ∧ zx_mr (zx_m k) = none ∧ plainName (zx_my (zx_m k)).cls = true) ∧
    (zx_mk (zx_m k) = 3 → Cond.static Lib.Math.max.name ∈ zx_G ∧ zx_my (zx_m k) = Lib.Math.max.name ∧ Cond.initialized "java/lang/Math" ∈ zx_G) ∧
    (zx_mk (zx_m k) = 4 → Cond.static Lib.Math.min.name ∈ zx_G ∧ zx_my (zx_m k) = Lib.Math.min.name ∧ Cond.initialized "java/lang/Math" ∈ zx_G) := by
  obtain ⟨q, hq⟩ := zx_mok _ (zx_m_mem hk)
  unfold zx_ckm at hq
  simp only [Bool.and_eq_true, decide_eq_true_eq] at hq
  obtain ⟨q1, q2, -, q3, q4, q5, q6, q7⟩ := hq
  refine ⟨zx_inG_mem q1, q2, q3, q4, q5, q6, ?_, ?_, ?_, ?_, ?_⟩
  · intro z; rw [z] at q7; simp only [Bool.and_eq_true] at q7
    exact ⟨zx_inG_mem q7.1, zx_inG_mem q7.2.1, q7.2.2⟩
  · intro z; rw [z] at q7; simp only [Bool.and_eq_true] at q7
    exact ⟨zx_inG_mem q7.1, q7.2⟩
  · intro z; rw [z] at q7; simp only [Bool.and_eq_true, decide_eq_true_eq] at q7
    exact ⟨zx_inG_mem q7.1, q7.2.1, q7.2.2.1, q7.2.2.2⟩
  · intro z; rw [z] at q7; simp only [Bool.and_eq_true, decide_eq_true_eq] at q7
    exact ⟨zx_inG_mem q7.1, q7.2.1, zx_inG_mem q7.2.2⟩
  · intro z; rw [z] at q7; simp only [Bool.and_eq_true, decide_eq_true_eq] at q7
    exact ⟨zx_inG_mem q7.1, q7.2.1, zx_inG_mem q7.2.2⟩
end
end
section
/-! part 11: the steps that call -/
section
variable {p : Program} {l : Launch} {e : Env} {R : Room} {s : State} {m : MethodId} {args : Array Value} {below : List Frame} {meth : Method} {c : Code} {Q : State → Prop}
variable {fx : Nat → Nat → Nat} {vq : Value} {ct : Nat → ClassId} {ad : Nat → Nat} {A : Nat → Prop} {sc : zx_Sc} {D : va_G} {t : zx_MT} {d : Nat}
variable {pc nc ns : Nat} {L : List (Option zx_V)} {S : List zx_V} {h : List zx_C} {st : zx_S}
set_option maxRecDepth 100000 in
theorem zx_nwl : zx_nw.all (fun w => match w with | .methodLinkNest _ _ y _ => decide (y.cls ≠ "java/lang/Math") | _ => true) = true := by decide +kernel
theorem zx_noN1 (o : String) (i : Nat) : ¬ Cond.methodLinkNest o i Lib.Math.max.name zx_host ∈ lw_tbl := by
  intro h
  have h2 := List.all_eq_true.mp zx_nwl _ (List.mem_filter.mpr ⟨h, rfl⟩)
  exact absurd (by decide : (Lib.Math.max.name).cls = "java/lang/Math") (by simpa using h2)
theorem zx_noN2 (o : String) (i : Nat) : ¬ Cond.methodLinkNest o i Lib.Math.min.name zx_host ∈ lw_tbl := by
  intro h
  have h2 := List.all_eq_true.mp zx_nwl _ (List.mem_filter.mpr ⟨h, rfl⟩)
  exact absurd (by decide : (Lib.Math.min.name).cls = "java/lang/Math") (by simpa using h2)
set_option maxRecDepth 100000 in
theorem zx_cmax : Cond.code Lib.Math.max.name Lib.Math.max.code 2 (some .int) ∈ zx_G := zx_cdm zx_dm0 (p := 717) rfl
set_option maxRecDepth 100000 in
theorem zx_cmin : Cond.code Lib.Math.min.name Lib.Math.min.code 2 (some .int) ∈ zx_G := zx_cdm zx_dm0 (p := 531) rfl
variable {run : Nat → List zx_V → List zx_C → Option zx_R}
/-- the callees are known -/
def zx_Hm (l : Launch) (fx : Nat → Nat → Nat) (vq : Value) (ct : Nat → ClassId) (A : Nat → Prop) (sc : zx_Sc) (D : va_G) (d : Nat) (run : Nat → List zx_V → List zx_C → Option zx_R) : Prop := ∀ (k : Nat) (as : List zx_V) (h : List zx_C) (r : zx_R) (ad : Nat → Nat), k < 221 → zx_mk (zx_m k) < 3 → run k as h = some r → ∃ d', d = d' + 1 ∧ zx_Met l fx vq ct A none D d' k as h r ad
theorem zx_stk_split {n a : Nat} {tg : Nat} {r : List zx_V} {va : Value} (hd : S.drop n = .inr (.inr (tg, a)) :: r) (hva : zx_c fx vq ad (.inr (.inr (tg, a))) = va) : S.map (zx_c fx vq ad) = ((S.take n).reverse.map (zx_c fx vq ad)).reverse ++ va :: r.map (zx_c fx vq ad) := by
  rw [List.map_reverse, List.reverse_reverse, ← hva]
  have e1 : S = S.take n ++ S.drop n := (List.take_append_drop n S).symm
  have e2 : S.map (zx_c fx vq ad) = (S.take n ++ S.drop n).map (zx_c fx vq ad) := by rw [← e1]
  rw [e2, List.map_append, hd]
  rfl
theorem zx_room {d' k : Nat} {q : zx_R} (hk : k < 221) (hR : d' + 1 + 1 ≤ R.frames ∧ 40 * (d' + 1) + 40 ≤ R.locals) : (zx_rm d' q).frames + 1 ≤ R.frames ∧ 8 + (zx_mn (zx_m k) + 11) + (zx_rm d' q).locals ≤ R.locals := by
  have h1 := (zx_mfacts hk).2.2.1
  refine ⟨hR.1, ?_⟩
  show 8 + (zx_mn (zx_m k) + 11) + (40 * d' + 40) ≤ R.locals
  have h2 := hR.2
  omega
theorem zx_take_len {n : Nat} (hn : n ≤ S.length) : ((S.take n).reverse.map (zx_c fx vq ad)).length = n := by
  rw [List.length_map, List.length_reverse, List.length_take]
  omega
theorem zx_hW {r : List zx_V} {ls : Array Slot} {rest : List Value} (hq : vq = .null ∨ ∃ t, vq = .ref t) (hr : zx_cs r ≤ 8) : 2 * (F0 m pc ls rest).monitorRoom + ((r.map (zx_c fx vq ad)).map fun v => v.category).sum ≤ 8 := lv_room (by rw [zx_sum hq]; exact hr)
theorem zx_s_iv (X : zx_Cx p R s m args meth c fx vq ct A sc D t d) (hM : zx_Hm l fx vq ct A sc D d run) {ix : Nat} (hdg : decode (zx_mb t) pc = .ok (.invokevirtual ix, 3)) (h1 : zx_iv run (zx_mo t) ix pc L S h nc ns = some (.inl st)) (hR : st.2.2.2.2.1 ≤ R.cells ∧ st.2.2.2.2.2 ≤ R.slots)
    (K : ∀ ad', zx_ext ad h ad' st.2.2.2.1 → zx_Go p l e R s m args below meth c Q fx vq ct A D t ad' st) : zx_Go p l e R s m args below meth c Q fx vq ct A D t ad (pc, L, S, h, nc, ns) := by
  have X0 := X
  obtain ⟨hx, hb, hml, hown, hts, hK, hA, hSt, hRm, hin⟩ := X
  have hq := hSt.2.2.2.2.2.2.2.2.1
  unfold zx_iv at h1
  split at h1
  · rename_i k np e1
    have hL := zx_cka_use zx_ckL_all e1
    split at h1
    · rename_i g
      obtain ⟨hk0, hk⟩ := g
      obtain ⟨f1, f2, f3, f4, f5, f6, f7, -, -, -, -⟩ := zx_mfacts hk
      obtain ⟨w1, w2, w3⟩ := f7 hk0
      have key : ∀ {tg a : Nat} {b : Nat} {r : List zx_V} {q : zx_R} {H : Heap} {locs : List Loc} {ls : Array Slot}, S.drop (zx_mp (zx_m k)) = .inr (.inr (tg, a)) :: r → zx_c fx vq ad (.inr (.inr (tg, a))) = .ref b → zx_cs r ≤ 8 → zx_mp (zx_m k) ≤ S.length →
          run k (.inr (.inr (tg, a)) :: (S.take (zx_mp (zx_m k))).reverse) h = some q → nc + q.2.2.1 ≤ R.cells ∧ ns + q.2.2.2 ≤ R.slots →
          va_P D zx_cl (zx_w fx vq ct ad h) H → va_D A (zx_w fx vq ct ad h) → va_S A s.heap H locs → ls.size = zx_mn t → (∃ cellB : Cell, H[b]? = some cellB ∧ cellB.vm.isStatics = false ∧ s.vm.findClass (zx_my (zx_m k)).cls = some cellB.cls) →
          ∃ aa, va_Run p l e R s m args below meth c H locs nc ns q.2.2.1 q.2.2.2 (F0 m pc ls (S.map (zx_c fx vq ad))) (r.map (zx_c fx vq ad)) (zx_Qc fx vq ct A D ad h q aa) A := by
        intro tg a b r q H locs ls hdr hva hcs hlen hrun hf hP hD hS hsz hcell
        obtain ⟨d', rfl, hMet⟩ := hM k _ h q ad hk (by omega) hrun
        have hpre : PreV s H (zx_my (zx_m k)).cls b (va_Pc ((.inr (.inr (tg, a)) :: (S.take (zx_mp (zx_m k))).reverse : List zx_V).map (zx_c fx vq ad)) (zx_Wd fx vq ct A none D ad h)) ((S.take (zx_mp (zx_m k))).reverse.map (zx_c fx vq ad)) := by
          refine ⟨zx_blind, hcell, fun U hU hW => ?_⟩
          have h9 := zx_in X0 hP hD hS (.inr (.inr (tg, a)) :: (S.take (zx_mp (zx_m k))).reverse) U hU hW
          have e9 : (Value.ref b :: (S.take (zx_mp (zx_m k))).reverse.map (zx_c fx vq ad)) = (.inr (.inr (tg, a)) :: (S.take (zx_mp (zx_m k))).reverse : List zx_V).map (zx_c fx vq ad) := by rw [List.map_cons, hva]
          rw [e9]
          exact h9
        unfold zx_ckL at hL
        split at hL
        · exact ⟨_, va_runV ⟨hx, hb, hml, hown, hts⟩ hMet (cwV (zx_mp (zx_m k)) hts (zx_gi (fun w hw => by
            rcases List.mem_append.mp hw with hw | hw
            · simp only [List.mem_cons, List.not_mem_nil, or_false] at hw
              rcases hw with rfl | rfl | rfl | rfl
              · exact zx_inG_mem hL
              · exact w1
              · exact w2
              · exact f1
            · exact zx_ws_in hk w hw)) rfl rfl rfl ⟨rfl, f4, f5, f6⟩ (zx_room hk hRm)) hpre rfl (zx_take_len hlen) hsz (zx_stk_split hdr hva) (zx_hW hq hcs) hdg hf⟩
        · exact ⟨_, va_runVN ⟨hx, hb, hml, hown, hts⟩ hMet ⟨va_cnB (zx_mp (zx_m k)) hts (zx_gi (zx_ws_in hk)) rfl rfl rfl (hSt.1 _ (zx_inN_mem hL)) (hts _ f1) ⟨f4, f5, f6⟩ (zx_room hk hRm), hts _ w1, hts _ w2⟩ hpre rfl (zx_take_len hlen) hsz (zx_stk_split hdr hva) (zx_hW hq hcs) hdg hf⟩
        · cases hL
      split at h1
      · rename_i a r hdr
        split at h1
        · rename_i ci fs e2
          split at h1
          · rename_i g
            obtain ⟨g1, g2, g3, g4⟩ := g
            obtain ⟨q, hrun, hor, rfl⟩ := zx_retI h1
            intro H locs ls hP hD hS hl
            have hcell := va_recv hK hP (zx_clk g2) (zx_w_get (fx := fx) (vq := vq) (ct := ct) (ad := ad) e2)
            have e9 : zx_R9 ci = (zx_my (zx_m k)).cls := by
              rw [← f2, ← g1]
              rcases (show ci = 0 ∨ ci = 1 ∨ ci = 2 ∨ ci = 3 ∨ ci = 4 ∨ ci = 5 ∨ ci = 6 ∨ ci = 7 ∨ ci = 8 by omega) with rfl | rfl | rfl | rfl | rfl | rfl | rfl | rfl | rfl <;> rfl
            rw [show (zx_R9 ci, zx_T8 ci, zx_fn ci).1 = (zx_my (zx_m k)).cls from e9] at hcell
            obtain ⟨aa, hr⟩ := key hdr rfl g3 g4 hrun hR hP hD hS hl.1 hcell
            exact zx_back hor hr hS hl K
          · cases h1
        · cases h1
      · rename_i a r hdr
        split at h1
        · rename_i g
          obtain ⟨g1, g2, g3, g4⟩ := g
          obtain ⟨q, hrun, hor, rfl⟩ := zx_retI h1
          intro H locs ls hP hD hS hl
          have hcell := vk_recv hSt.2.2.2.2.1 g1 hS
          rw [g2] at f2
          rw [show ("java/lang/String" : String) = (zx_my (zx_m k)).cls from f2] at hcell
          obtain ⟨aa, hr⟩ := key hdr rfl g3 g4 hrun hR hP hD hS hl.1 hcell
          exact zx_back hor hr hS hl K
        · cases h1
      · cases h1
    · cases h1
  · cases h1
theorem zx_cpy_len {α : Type} {f g : List α} {sp dp n : Nat} (h1 : sp + n ≤ f.length) (h2 : dp + n ≤ g.length) : (zx_cpy f g sp dp n).length = g.length := by
  unfold zx_cpy
  simp only [List.length_append, List.length_take, List.length_drop]
  omega
theorem zx_cpy_fn {α : Type} {d0 : α} {f g : List α} {sp dp n : Nat} (h1 : sp + n ≤ f.length) (h2 : dp + n ≤ g.length) : (fun j : Nat => (zx_cpy f g sp dp n).getD j d0) = va_cpy (fun j : Nat => f.getD j d0) (fun j : Nat => g.getD j d0) sp dp n := by
  funext j
  unfold va_cpy
  show (zx_cpy f g sp dp n).getD j d0 = if dp ≤ j ∧ j < dp + n then f.getD (sp + (j - dp)) d0 else g.getD j d0
  unfold zx_cpy
  rw [List.getD_eq_getElem?_getD, List.getD_eq_getElem?_getD, List.getD_eq_getElem?_getD]
  have l1 : (g.take dp).length = dp := by rw [List.length_take]; omega
  have l2 : ((f.drop sp).take n).length = n := by rw [List.length_take, List.length_drop]; omega
  by_cases a : j < dp
  · rw [List.getElem?_append_left (by omega), List.getElem?_take, if_pos a, if_neg (by omega)]
  · rw [List.getElem?_append_right (by omega), l1]
    by_cases b : j - dp < n
    · rw [List.getElem?_append_left (by omega), List.getElem?_take, if_pos b, List.getElem?_drop, if_pos (by omega)]
    · rw [List.getElem?_append_right (by omega), l2, List.getElem?_drop, if_neg (by omega), show dp + n + (j - dp - n) = j by omega]
theorem zx_s_ac (X : zx_Cx p R s m args meth c fx vq ct A sc D t d) {ix : Nat} (hdg : decode (zx_mb t) pc = .ok (.invokestatic ix, 3)) (hlk : Cond.methodLink (zx_o (zx_mo t)) ix arraycopyName ∈ zx_G) (h1 : zx_ac pc L S h nc ns = some (.inl st))
    (K : zx_Go p l e R s m args below meth c Q fx vq ct A D t ad st) : zx_Go p l e R s m args below meth c Q fx vq ct A D t ad (pc, L, S, h, nc, ns) := by
  obtain ⟨hx, hb, hml, hown, hts, hK, hA, hSt, hRm, hin⟩ := X
  have hq := hSt.2.2.2.2.2.2.2.2.1
  have hX := zx_ckX
  simp only [Bool.and_eq_true] at hX
  have hnw : nativeFrameWords "java/lang/System" "arraycopy" 5 + 11 ≤ 32 := by decide +kernel
  unfold zx_ac at h1
  split at h1
  · rename_i n dp b sp a r
    split at h1
    · rename_i g
      obtain ⟨g1, g2, g3, g4⟩ := g
      have hloc : ((r.map (zx_c fx vq ad)).map fun v => v.category).sum + (nativeFrameWords "java/lang/System" "arraycopy" 5 + 11) ≤ R.locals := by
        rw [zx_sum hq]
        have := hRm.2
        omega
      split at h1
      · rename_i f z e1 e2
        split at h1
        · rename_i g5
          obtain rfl := zx_Ni h1
          intro H locs ls hP hD hS hl
          have ew : zx_w fx vq ct ad (h.set b (.inr (0, .inl (zx_cpy f z sp.toNatClampNeg dp.toNatClampNeg n.toNatClampNeg)))) = (zx_w fx vq ct ad h).set b (ad b, .inl (ct 0, z.length, .inl (va_cpy (fun j : Nat => f.getD j 0) (fun j : Nat => z.getD j 0) sp.toNatClampNeg dp.toNatClampNeg n.toNatClampNeg))) := by
            rw [zx_w_set, ← zx_cpy_fn g5.1 g5.2, ← zx_cpy_len g5.1 g5.2]
            rfl
          exact va_copyi hx hb (hml.trans hl.1.symm) hown (hts _ hlk) (hts _ (zx_inG_mem hX.2.2.2.1)) (hts _ (zx_inG_mem hX.2.2.2.2.1)) (hts _ (zx_inG_mem hX.2.2.1)) hK hP hD hS a b 0 0 (ty := .int) (zx_w_get (fx := fx) (vq := vq) (ct := ct) (ad := ad) e1) (zx_w_get (fx := fx) (vq := vq) (ct := ct) (ad := ad) e2) rfl rfl rfl g2 g3 g4 g5.1 g5.2 (fun _ _ => rfl) (by have := hRm.1; omega) hloc hdg (fun H1 locs1 hP1 hD1 hS1 => K H1 locs1 ls (by rw [ew]; exact hP1) (by rw [ew]; exact hD1) hS1 hl)
        · cases h1
      · rename_i f z e1 e2
        split at h1
        · rename_i g5
          obtain rfl := zx_Ni h1
          intro H locs ls hP hD hS hl
          have ew : zx_w fx vq ct ad (h.set b (.inr (1, .inr (.inl (zx_cpy f z sp.toNatClampNeg dp.toNatClampNeg n.toNatClampNeg))))) = (zx_w fx vq ct ad h).set b (ad b, .inl (ct 1, z.length, .inr (.inl (va_cpy (fun j : Nat => f.getD j 0) (fun j : Nat => z.getD j 0) sp.toNatClampNeg dp.toNatClampNeg n.toNatClampNeg)))) := by
            rw [zx_w_set, ← zx_cpy_fn g5.1 g5.2, ← zx_cpy_len g5.1 g5.2]
            rfl
          exact va_copyl hx hb (hml.trans hl.1.symm) hown (hts _ hlk) (hts _ (zx_inG_mem hX.2.2.2.1)) (hts _ (zx_inG_mem hX.2.2.2.2.1)) (hts _ (zx_inG_mem hX.2.2.1)) hK hP hD hS a b 1 1 (ty := .long) (zx_w_get (fx := fx) (vq := vq) (ct := ct) (ad := ad) e1) (zx_w_get (fx := fx) (vq := vq) (ct := ct) (ad := ad) e2) rfl rfl rfl g2 g3 g4 g5.1 g5.2 (fun _ _ => rfl) (by have := hRm.1; omega) hloc hdg (fun H1 locs1 hP1 hD1 hS1 => K H1 locs1 ls (by rw [ew]; exact hP1) (by rw [ew]; exact hD1) hS1 hl)
        · cases h1
      · cases h1
    · cases h1
  · cases h1
theorem zx_s_is (X : zx_Cx p R s m args meth c fx vq ct A sc D t d) (hM : zx_Hm l fx vq ct A sc D d run) {ix : Nat} (hdg : decode (zx_mb t) pc = .ok (.invokestatic ix, 3)) (h1 : zx_is run (zx_mo t) ix pc L S h nc ns = some (.inl st)) (hR : st.2.2.2.2.1 ≤ R.cells ∧ st.2.2.2.2.2 ≤ R.slots)
    (K : ∀ ad', zx_ext ad h ad' st.2.2.2.1 → zx_Go p l e R s m args below meth c Q fx vq ct A D t ad' st) : zx_Go p l e R s m args below meth c Q fx vq ct A D t ad (pc, L, S, h, nc, ns) := by
  have X0 := X
  obtain ⟨hx, hb, hml, hown, hts, hK, hA, hSt, hRm, hin⟩ := X
  have hq := hSt.2.2.2.2.2.2.2.2.1
  unfold zx_is at h1
  split at h1
  · rename_i k np e1
    have hL := zx_cka_use zx_ckL_all e1
    split at h1
    · rename_i g
      obtain ⟨hk1, hk, hcs, hlen⟩ := g
      obtain ⟨f1, f2, f3, f4, f5, f6, -, f7, -, -, -⟩ := zx_mfacts hk
      obtain ⟨w1, w3⟩ := f7 hk1
      obtain ⟨q, hrun, hor, rfl⟩ := zx_retI h1
      intro H locs ls hP hD hS hl
      obtain ⟨d', rfl, hMet⟩ := hM k _ h q ad hk (by omega) hrun
      have hpre : PreS s H (va_Pc ((S.take (zx_mp (zx_m k))).reverse.map (zx_c fx vq ad)) (zx_Wd fx vq ct A none D ad h)) ((S.take (zx_mp (zx_m k))).reverse.map (zx_c fx vq ad)) := ⟨zx_blind, zx_in X0 hP hD hS _⟩
      have hstk : S.map (zx_c fx vq ad) = ((S.take (zx_mp (zx_m k))).reverse.map (zx_c fx vq ad)).reverse ++ (S.drop (zx_mp (zx_m k))).map (zx_c fx vq ad) := by
        rw [List.map_reverse, List.reverse_reverse, ← List.map_append, List.take_append_drop]
      unfold zx_ckL at hL
      split at hL
      · exact zx_back hor (va_runS ⟨hx, hb, hml, hown, hts⟩ hMet (va_cwS (zx_mp (zx_m k)) hts (zx_gi (fun w hw => by
          rcases List.mem_append.mp hw with hw | hw
          · simp only [List.mem_cons, List.not_mem_nil, or_false] at hw
            rcases hw with rfl | rfl | rfl
            · exact zx_inG_mem hL
            · exact w1
            · exact f1
          · exact zx_ws_in hk w hw)) rfl rfl rfl ⟨f4, f5, f6⟩ (zx_room hk hRm)) hpre rfl (zx_take_len hlen) hl.1 hstk (zx_hW hq hcs) hdg hR) hS hl K
      · exact zx_back hor (va_runSN ⟨hx, hb, hml, hown, hts⟩ hMet ⟨va_cnB (zx_mp (zx_m k)) hts (zx_gi (zx_ws_in hk)) rfl rfl rfl (hSt.1 _ (zx_inN_mem hL)) (hts _ f1) ⟨f4, f5, f6⟩ (zx_room hk hRm), hts _ w1, trivial⟩ hpre rfl (zx_take_len hlen) hl.1 hstk (zx_hW hq hcs) hdg hR) hS hl K
      · cases hL
    · split at h1
      · rename_i y x r _
        split at h1
        · rename_i g
          obtain ⟨hcs, hk⟩ := g
          have hloc : ((r.map (zx_c fx vq ad)).map fun v => v.category).sum + 13 ≤ R.locals := by
            rw [zx_sum hq]
            have := hRm.2
            omega
          obtain ⟨f1, f2, f3, f4, f5, f6, -, -, -, f7, f8⟩ := zx_mfacts hk
          have hcode := zx_kc _ (zx_m_mem hk)
          split at h1
          · rename_i hk3
            obtain ⟨w1, w2, w3⟩ := f7 hk3
            obtain rfl := zx_Ni h1
            intro H locs ls hP hD hS hl
            have hlk : Cond.methodLink (zx_o (zx_mo t)) ix Lib.Math.max.name ∈ zx_G := by
              unfold zx_ckL at hL
              split at hL
              · rw [← w2]; exact zx_inG_mem hL
              · exfalso
                have hn := List.mem_filter.mp (zx_inN_mem hL)
                rw [w2] at hn
                exact zx_noN1 _ _ hn.1
              · cases hL
            exact va_mmax hx hb (hml.trans hl.1.symm) hown (hts _ hlk) (hts _ w1) (hts _ w3) (hts _ zx_cmax) (by have := hRm.1; omega) hloc hR.1 hR.2 hdg (K ad (zx_ext_sm rfl) H locs ls hP hD hS hl)
          · split at h1
            · rename_i hk4
              obtain ⟨w1, w2, w3⟩ := f8 hk4
              obtain rfl := zx_Ni h1
              intro H locs ls hP hD hS hl
              have hlk : Cond.methodLink (zx_o (zx_mo t)) ix Lib.Math.min.name ∈ zx_G := by
                unfold zx_ckL at hL
                split at hL
                · rw [← w2]; exact zx_inG_mem hL
                · exfalso
                  have hn := List.mem_filter.mp (zx_inN_mem hL)
                  rw [w2] at hn
                  exact zx_noN2 _ _ hn.1
                · cases hL
              exact va_mmin hx hb (hml.trans hl.1.symm) hown (hts _ hlk) (hts _ w1) (hts _ w3) (hts _ zx_cmin) (by have := hRm.1; omega) hloc hR.1 hR.2 hdg (K ad (zx_ext_sm rfl) H locs ls hP hD hS hl)
            · cases h1
        · cases h1
      · cases h1
  · split at h1
    · rename_i pp e1
      have hA9 := zx_cka_use zx_ckA_all e1
      exact zx_s_ac X0 hdg (zx_inG_mem hA9) h1 (K ad (zx_ext_sm (zx_k_ac h1).2.1))
    · cases h1
theorem zx_s_ii (X : zx_Cx p R s m args meth c fx vq ct A sc D t d) (hM : zx_Hm l fx vq ct A sc D d run) {ix : Nat} (hdg : decode (zx_mb t) pc = .ok (.invokespecial ix, 3)) (h1 : zx_ii run (zx_mo t) ix pc L S h nc ns = some (.inl st)) (hR : st.2.2.2.2.1 ≤ R.cells ∧ st.2.2.2.2.2 ≤ R.slots)
    (K : ∀ ad', zx_ext ad h ad' st.2.2.2.1 → zx_Go p l e R s m args below meth c Q fx vq ct A D t ad' st) : zx_Go p l e R s m args below meth c Q fx vq ct A D t ad (pc, L, S, h, nc, ns) := by
  have X0 := X
  obtain ⟨hx, hb, hml, hown, hts, hK, hA, hSt, hRm, hin⟩ := X
  have hq := hSt.2.2.2.2.2.2.2.2.1
  unfold zx_ii at h1
  split at h1
  · rename_i k np e1
    have hL := zx_cka_use zx_ckL_all e1
    split at h1
    · rename_i g
      obtain ⟨hk2, hk⟩ := g
      obtain ⟨f1, f2, f3, f4, f5, f6, -, -, f7, -, -⟩ := zx_mfacts hk
      obtain ⟨w1, w2, w3, w4⟩ := f7 hk2
      split at h1
      · rename_i a r hdr
        split at h1
        · rename_i g
          obtain ⟨hcs, hlen⟩ := g
          obtain ⟨q, hrun, hor, rfl⟩ := zx_retI h1
          intro H locs ls hP hD hS hl
          obtain ⟨d', rfl, hMet⟩ := hM k _ h q ad hk (by omega) hrun
          have hpre : PreS s H (va_Pc ((.inr (.inr (1, a)) :: (S.take (zx_mp (zx_m k))).reverse : List zx_V).map (zx_c fx vq ad)) (zx_Wd fx vq ct A none D ad h)) (.ref (ad a) :: (S.take (zx_mp (zx_m k))).reverse.map (zx_c fx vq ad)) := ⟨zx_blind, zx_in X0 hP hD hS (.inr (.inr (1, a)) :: (S.take (zx_mp (zx_m k))).reverse)⟩
          have hws : zx_ws k = Cond.code (zx_my (zx_m k)) (zx_mb (zx_m k)) (zx_mn (zx_m k)) none :: zx_G := by
            unfold zx_ws
            rw [w3]
          unfold zx_ckL at hL
          split at hL
          · exact zx_back hor (va_runI ⟨hx, hb, hml, hown, hts⟩ hMet (cwI (zx_mp (zx_m k)) hts (zx_gi (zx_ws_in hk)) hws rfl rfl (hts _ f1) (hts _ (zx_inG_mem hL)) (hts _ w1) w2 ⟨f4, f5, f6⟩ (zx_room hk hRm)) hpre rfl (zx_take_len hlen) hl.1 (zx_stk_split hdr rfl) (zx_hW hq hcs) hdg hR) hS hl K
          · exact zx_back hor (va_runIN ⟨hx, hb, hml, hown, hts⟩ hMet ⟨va_cnB (zx_mp (zx_m k)) hts (zx_gi (zx_ws_in hk)) hws rfl rfl (hSt.1 _ (zx_inN_mem hL)) (hts _ f1) ⟨f4, f5, f6⟩ (zx_room hk hRm), w2, hts _ w1⟩ hpre rfl (zx_take_len hlen) hl.1 (zx_stk_split hdr rfl) (zx_hW hq hcs) hdg hR) hS hl K
          · cases hL
        · cases h1
      · cases h1
    · cases h1
  · split at h1
    · rename_i pp a r e1
      have hO := zx_cka_use zx_ckO_all e1
      have hX := zx_ckX
      simp only [Bool.and_eq_true] at hX
      split at h1
      · rename_i hcs
        obtain rfl := zx_Ni h1
        intro H locs ls hP hD hS hl
        refine W.objInit hx hb hown (hts _ (zx_inG_mem hO)) (hts _ (zx_inG_mem hX.2.2.2.2.2.1)) (hts _ (zx_inG_mem hX.2.2.2.2.2.2)) rfl (by rw [hml]; exact hl.1) rfl hdg (by have := hRm.1; omega) ?_ (K ad (zx_ext_sm rfl) H locs ls hP hD hS hl)
        have h8 := hRm.2
        show 2 * 0 + ((r.map (zx_c fx vq ad)).map fun v => v.category).sum + 12 ≤ R.locals
        have h7 : ((r.map (zx_c fx vq ad)).map fun v => v.category).sum ≤ 8 := by rw [zx_sum hq]; exact hcs
        omega
      · cases h1
    · cases h1
end
end
section
/-! part 12: every step; every run: the small machine's runs are the machine's -/
section
variable {p : Program} {l : Launch} {e : Env} {R : Room} {s : State} {m : MethodId} {args : Array Value} {below : List Frame} {meth : Method} {c : Code} {Q : State → Prop}
variable {fx : Nat → Nat → Nat} {vq : Value} {ct : Nat → ClassId} {ad : Nat → Nat} {A : Nat → Prop} {sc : zx_Sc} {D : va_G} {t : zx_MT} {d : Nat}
variable {pc nc ns : Nat} {L : List (Option zx_V)} {S : List zx_V} {h : List zx_C} {st : zx_S}
variable {run : Nat → List zx_V → List zx_C → Option zx_R}
theorem zx_lSok : ∀ ix i, zx_lk zx_lS 4 ix = some i → ∃ q : String × Nat × Nat, zx_st[i]? = some q ∧ q.2.1 = ix := by
  intro ix i h1
  obtain ⟨r, h2, h3⟩ := zx_lk_mem h1
  have h4 : (zx_lS[4]?).all (fun r => r.all (fun e => match zx_st[e.2]? with | some q => decide (q.2.1 = e.1) | none => false)) = true := by decide +kernel
  rw [h2] at h4
  have h5 := List.all_eq_true.mp (by simpa using h4 : (r.all (fun e => match zx_st[e.2]? with | some q => decide (q.2.1 = e.1) | none => false)) = true) _ h3
  simp only at h5
  split at h5
  · rename_i q e5
    exact ⟨q, e5, by simpa using h5⟩
  · cases h5
theorem zx_nc_ret {ro : Option zx_R} {r : List zx_V} (h1 : zx_ret pc L r h nc ns ro = some (.inl st)) : st.2.1.length = L.length ∧ nc ≤ st.2.2.2.2.1 ∧ ns ≤ st.2.2.2.2.2 := by
  obtain ⟨q, -, -, rfl⟩ := zx_retI h1
  exact ⟨rfl, Nat.le_add_right _ _, Nat.le_add_right _ _⟩
theorem zx_nc_sm (h1 : zx_sm L h nc ns st) : st.2.1.length = L.length ∧ nc ≤ st.2.2.2.2.1 ∧ ns ≤ st.2.2.2.2.2 := ⟨h1.1, by rw [h1.2.2.1]; exact Nat.le_refl _, by rw [h1.2.2.2]; exact Nat.le_refl _⟩
theorem zx_nc_N {pc' : Nat} {L' : List (Option zx_V)} {S' : List zx_V} {h' : List zx_C} {nc' ns' : Nat} (h1 : zx_N pc' L' S' h' nc' ns' = some (.inl st)) (a : L'.length = L.length) (b : nc ≤ nc') (c : ns ≤ ns') : st.2.1.length = L.length ∧ nc ≤ st.2.2.2.2.1 ∧ ns ≤ st.2.2.2.2.2 := by
  obtain rfl := zx_Ni h1
  exact ⟨a, b, c⟩
theorem zx_nc_new {o ix : Nat} (h1 : zx_new o ix pc L S h nc ns = some (.inl st)) : st.2.1.length = L.length ∧ nc ≤ st.2.2.2.2.1 ∧ ns ≤ st.2.2.2.2.2 := by
  unfold zx_new at h1
  repeat' split at h1
  all_goals first | (cases h1; done) | exact zx_nc_N h1 rfl (by omega) (by omega)
theorem zx_nc_na {ty : ArrayType} (h1 : zx_na ty pc L S h nc ns = some (.inl st)) : st.2.1.length = L.length ∧ nc ≤ st.2.2.2.2.1 ∧ ns ≤ st.2.2.2.2.2 := by
  unfold zx_na at h1
  repeat' split at h1
  all_goals first | (cases h1; done) | exact zx_nc_N h1 rfl (by omega) (by omega)
theorem zx_nc_an {o ix : Nat} (h1 : zx_an o ix pc L S h nc ns = some (.inl st)) : st.2.1.length = L.length ∧ nc ≤ st.2.2.2.2.1 ∧ ns ≤ st.2.2.2.2.2 := by
  unfold zx_an at h1
  repeat' split at h1
  all_goals first | (cases h1; done) | exact zx_nc_N h1 rfl (by omega) (by omega)
theorem zx_nc_iv {o ix : Nat} (h1 : zx_iv run o ix pc L S h nc ns = some (.inl st)) : st.2.1.length = L.length ∧ nc ≤ st.2.2.2.2.1 ∧ ns ≤ st.2.2.2.2.2 := by
  unfold zx_iv at h1
  repeat' split at h1
  all_goals first | (cases h1; done) | exact zx_nc_ret h1
theorem zx_nc_is {o ix : Nat} (h1 : zx_is run o ix pc L S h nc ns = some (.inl st)) : st.2.1.length = L.length ∧ nc ≤ st.2.2.2.2.1 ∧ ns ≤ st.2.2.2.2.2 := by
  unfold zx_is at h1
  repeat' split at h1
  all_goals first | (cases h1; done) | exact zx_nc_ret h1 | exact zx_nc_sm (zx_k_ac h1) | exact zx_nc_N h1 rfl (Nat.le_refl _) (Nat.le_refl _)
theorem zx_nc_ii {o ix : Nat} (h1 : zx_ii run o ix pc L S h nc ns = some (.inl st)) : st.2.1.length = L.length ∧ nc ≤ st.2.2.2.2.1 ∧ ns ≤ st.2.2.2.2.2 := by
  unfold zx_ii at h1
  repeat' split at h1
  all_goals first | (cases h1; done) | exact zx_nc_ret h1 | exact zx_nc_N h1 rfl (Nat.le_refl _) (Nat.le_refl _)
theorem zx_noR {mr : Option FieldType} (h1 : zx_ir mr S h nc ns = some (.inl st) ∨ zx_lr mr S h nc ns = some (.inl st) ∨ zx_ar mr S h nc ns = some (.inl st) ∨ zx_vr mr S h nc ns = some (.inl st)) : False := by
  rcases h1 with h1 | h1 | h1 | h1
  · unfold zx_ir at h1
    repeat' split at h1
    all_goals cases h1
  · unfold zx_lr at h1
    repeat' split at h1
    all_goals cases h1
  · unfold zx_ar at h1
    repeat' split at h1
    all_goals cases h1
  · unfold zx_vr at h1
    repeat' split at h1
    all_goals cases h1
theorem zx_nc_ins {ins : Instr} (h1 : zx_ins sc run t ins pc L S h nc ns = some (.inl st)) : st.2.1.length = L.length ∧ nc ≤ st.2.2.2.2.1 ∧ ns ≤ st.2.2.2.2.2 := by
  unfold zx_ins at h1
  split at h1
  all_goals first | (cases h1; done) | exact zx_nc_N h1 rfl (Nat.le_refl _) (Nat.le_refl _) | exact zx_nc_sm (zx_k_lc h1) | exact zx_nc_sm (zx_k_lc2 h1) | exact zx_nc_sm (zx_k_ld h1) | exact zx_nc_sm (zx_k_sto h1) | exact zx_nc_sm (zx_k_stl h1) | exact zx_nc_sm (zx_k_iinc h1) | exact zx_nc_sm (zx_k_bin h1) | exact zx_nc_sm (zx_k_un h1) | exact zx_nc_sm (zx_k_lng h1) | exact zx_nc_sm (zx_k_stk h1) | exact zx_nc_sm (zx_k_if1 h1) | exact zx_nc_sm (zx_k_if2 h1) | exact zx_nc_sm (zx_k_J h1) | exact zx_nc_sm (zx_k_tsw h1) | exact zx_nc_sm (zx_k_lsw h1) | exact zx_nc_sm (zx_k_gf h1) | exact zx_nc_sm (zx_k_pf h1) | exact zx_nc_sm (zx_k_gs h1) | exact zx_nc_sm (zx_k_al h1) | exact zx_nc_sm (zx_k_ial h1) | exact zx_nc_sm (zx_k_ias h1) | exact zx_nc_sm (zx_k_lal h1) | exact zx_nc_sm (zx_k_las h1) | exact zx_nc_sm (zx_k_bal h1) | exact zx_nc_sm (zx_k_aal h1) | exact zx_nc_sm (zx_k_aas h1) | exact zx_nc_new h1 | exact zx_nc_na h1 | exact zx_nc_an h1 | exact zx_nc_iv h1 | exact zx_nc_is h1 | exact zx_nc_ii h1 | exact (zx_noR (Or.inl h1)).elim | exact (zx_noR (Or.inr (Or.inl h1))).elim | exact (zx_noR (Or.inr (Or.inr (Or.inl h1)))).elim | exact (zx_noR (Or.inr (Or.inr (Or.inr h1)))).elim
theorem zx_s_ins (X : zx_Cx p R s m args meth c fx vq ct A sc D t d) (hM : zx_Hm l fx vq ct A sc D d run) (hLn : L.length ≤ zx_mn t) {ins : Instr} {len : Nat} (hdg : decode (zx_mb t) pc = .ok (ins, len)) (hlen : zx_lok ins len = true) (h1 : zx_ins sc run t ins pc L S h nc ns = some (.inl st)) (hR : st.2.2.2.2.1 ≤ R.cells ∧ st.2.2.2.2.2 ≤ R.slots)
    (K : ∀ ad', zx_ext ad h ad' st.2.2.2.1 → zx_Go p l e R s m args below meth c Q fx vq ct A D t ad' st) : zx_Go p l e R s m args below meth c Q fx vq ct A D t ad (pc, L, S, h, nc, ns) := by
  obtain ⟨hx, hb, -⟩ := id X
  have sm : zx_sm L h nc ns st → zx_Go p l e R s m args below meth c Q fx vq ct A D t ad st := fun q => K ad (zx_ext_sm q.2.1)
  cases ins
  case iconst n =>
    have e9 : len = 1 := by simpa [zx_lok, zx_len] using hlen
    subst e9
    obtain rfl := zx_Ni h1
    intro H locs ls hP hD hS hl
    exact lv_iconst hx hb hdg rfl (K ad (zx_ext_sm rfl) H locs ls hP hD hS hl)
  case bipush n =>
    have e9 : len = 2 := by simpa [zx_lok, zx_len] using hlen
    subst e9
    obtain rfl := zx_Ni h1
    intro H locs ls hP hD hS hl
    exact lv_bipush hx hb hdg rfl (K ad (zx_ext_sm rfl) H locs ls hP hD hS hl)
  case sipush n =>
    have e9 : len = 3 := by simpa [zx_lok, zx_len] using hlen
    subst e9
    obtain rfl := zx_Ni h1
    intro H locs ls hP hD hS hl
    exact lv_sipush hx hb hdg rfl (K ad (zx_ext_sm rfl) H locs ls hP hD hS hl)
  case lconst n =>
    have e9 : len = 1 := by simpa [zx_lok, zx_len] using hlen
    subst e9
    obtain rfl := zx_Ni h1
    intro H locs ls hP hD hS hl
    exact lv_lconst hx hb hdg rfl (K ad (zx_ext_sm rfl) H locs ls hP hD hS hl)
  case iload i =>
    have e9 : len = 2 := by simpa [zx_lok, zx_len] using hlen
    subst e9
    exact zx_s_load X h1 (fun _ g k => lv_iload hx hb hdg g k) (fun q => by cases q) (fun q => by cases q) (fun q => by cases q) (by decide) (sm (zx_k_ld h1))
  case iload_n i =>
    have e9 : len = 1 := by simpa [zx_lok, zx_len] using hlen
    subst e9
    exact zx_s_load X h1 (fun _ g k => lv_iload_n hx hb hdg rfl g k) (fun q => by cases q) (fun q => by cases q) (fun q => by cases q) (by decide) (sm (zx_k_ld h1))
  case lload i =>
    have e9 : len = 2 := by simpa [zx_lok, zx_len] using hlen
    subst e9
    exact zx_s_load X h1 (fun q => by cases q) (fun _ g k => lv_lload hx hb hdg g k) (fun q => by cases q) (fun q => by cases q) (by decide) (sm (zx_k_ld h1))
  case lload_n i =>
    have e9 : len = 1 := by simpa [zx_lok, zx_len] using hlen
    subst e9
    exact zx_s_load X h1 (fun q => by cases q) (fun _ g k => lv_lload_n hx hb hdg rfl g k) (fun q => by cases q) (fun q => by cases q) (by decide) (sm (zx_k_ld h1))
  case aload i =>
    have e9 : len = 2 := by simpa [zx_lok, zx_len] using hlen
    subst e9
    exact zx_s_load X h1 (fun q => by cases q) (fun q => by cases q) (fun _ g k => lv_aload hx hb hdg g k) (fun _ g k => lv_aloadN hx hb hdg g k) (by decide) (sm (zx_k_ld h1))
  case aload_n i =>
    have e9 : len = 1 := by simpa [zx_lok, zx_len] using hlen
    subst e9
    exact zx_s_load X h1 (fun q => by cases q) (fun q => by cases q) (fun _ g k => lv_aload_n hx hb hdg rfl g k) (fun _ g k => lv_aload_nN hx hb hdg rfl g k) (by decide) (sm (zx_k_ld h1))
  case istore i =>
    have e9 : len = 2 := by simpa [zx_lok, zx_len] using hlen
    subst e9
    exact zx_s_store X h1 hLn (fun _ g a k => lv_istore hx hb hdg g a rfl k) (fun q => by cases q) (fun q => by cases q) (by decide) (sm (zx_k_sto h1))
  case istore_n i =>
    have e9 : len = 1 := by simpa [zx_lok, zx_len] using hlen
    subst e9
    exact zx_s_store X h1 hLn (fun _ g a k => lv_istore_n hx hb hdg rfl g a rfl k) (fun q => by cases q) (fun q => by cases q) (by decide) (sm (zx_k_sto h1))
  case astore i =>
    have e9 : len = 2 := by simpa [zx_lok, zx_len] using hlen
    subst e9
    exact zx_s_store X h1 hLn (fun q => by cases q) (fun _ g a k => lv_astore hx hb hdg g a rfl k) (fun _ g a k => lv_astoreN hx hb hdg g a rfl k) (by decide) (sm (zx_k_sto h1))
  case astore_n i =>
    have e9 : len = 1 := by simpa [zx_lok, zx_len] using hlen
    subst e9
    exact zx_s_store X h1 hLn (fun q => by cases q) (fun _ g a k => lv_astore_n hx hb hdg rfl g a rfl k) (fun _ g a k => lv_astore_nN hx hb hdg rfl g a rfl k) (by decide) (sm (zx_k_sto h1))
  case lstore i =>
    have e9 : len = 2 := by simpa [zx_lok, zx_len] using hlen
    subst e9
    exact zx_s_stl X h1 hLn (fun g a k => lv_lstore hx hb hdg g a rfl k) (sm (zx_k_stl h1))
  case lstore_n i =>
    have e9 : len = 1 := by simpa [zx_lok, zx_len] using hlen
    subst e9
    exact zx_s_stl X h1 hLn (fun g a k => lv_lstore_n hx hb hdg rfl g a rfl k) (sm (zx_k_stl h1))
  case iinc i z =>
    have e9 : len = 3 := by simpa [zx_lok, zx_len] using hlen
    subst e9
    exact zx_s_iinc X hdg h1 hLn (sm (zx_k_iinc h1))
  case iadd =>
    have e9 : len = 1 := by simpa [zx_lok, zx_len] using hlen
    subst e9
    have h2 : zx_bin .iadd pc L S h nc ns = some (.inl st) := h1
    exact zx_s_bin X hdg h2 (sm (zx_k_bin h2))
  case isub =>
    have e9 : len = 1 := by simpa [zx_lok, zx_len] using hlen
    subst e9
    have h2 : zx_bin .isub pc L S h nc ns = some (.inl st) := h1
    exact zx_s_bin X hdg h2 (sm (zx_k_bin h2))
  case imul =>
    have e9 : len = 1 := by simpa [zx_lok, zx_len] using hlen
    subst e9
    have h2 : zx_bin .imul pc L S h nc ns = some (.inl st) := h1
    exact zx_s_bin X hdg h2 (sm (zx_k_bin h2))
  case iand =>
    have e9 : len = 1 := by simpa [zx_lok, zx_len] using hlen
    subst e9
    have h2 : zx_bin .iand pc L S h nc ns = some (.inl st) := h1
    exact zx_s_bin X hdg h2 (sm (zx_k_bin h2))
  case ior =>
    have e9 : len = 1 := by simpa [zx_lok, zx_len] using hlen
    subst e9
    have h2 : zx_bin .ior pc L S h nc ns = some (.inl st) := h1
    exact zx_s_bin X hdg h2 (sm (zx_k_bin h2))
  case ixor =>
    have e9 : len = 1 := by simpa [zx_lok, zx_len] using hlen
    subst e9
    have h2 : zx_bin .ixor pc L S h nc ns = some (.inl st) := h1
    exact zx_s_bin X hdg h2 (sm (zx_k_bin h2))
  case ishl =>
    have e9 : len = 1 := by simpa [zx_lok, zx_len] using hlen
    subst e9
    have h2 : zx_bin .ishl pc L S h nc ns = some (.inl st) := h1
    exact zx_s_bin X hdg h2 (sm (zx_k_bin h2))
  case ishr =>
    have e9 : len = 1 := by simpa [zx_lok, zx_len] using hlen
    subst e9
    have h2 : zx_bin .ishr pc L S h nc ns = some (.inl st) := h1
    exact zx_s_bin X hdg h2 (sm (zx_k_bin h2))
  case iushr =>
    have e9 : len = 1 := by simpa [zx_lok, zx_len] using hlen
    subst e9
    have h2 : zx_bin .iushr pc L S h nc ns = some (.inl st) := h1
    exact zx_s_bin X hdg h2 (sm (zx_k_bin h2))
  case idiv =>
    have e9 : len = 1 := by simpa [zx_lok, zx_len] using hlen
    subst e9
    have h2 : zx_bin .idiv pc L S h nc ns = some (.inl st) := h1
    exact zx_s_bin X hdg h2 (sm (zx_k_bin h2))
  case irem =>
    have e9 : len = 1 := by simpa [zx_lok, zx_len] using hlen
    subst e9
    have h2 : zx_bin .irem pc L S h nc ns = some (.inl st) := h1
    exact zx_s_bin X hdg h2 (sm (zx_k_bin h2))
  case ineg =>
    have e9 : len = 1 := by simpa [zx_lok, zx_len] using hlen
    subst e9
    have h2 : zx_un .ineg pc L S h nc ns = some (.inl st) := h1
    exact zx_s_un X hdg h2 (sm (zx_k_un h2))
  case i2b =>
    have e9 : len = 1 := by simpa [zx_lok, zx_len] using hlen
    subst e9
    have h2 : zx_un .i2b pc L S h nc ns = some (.inl st) := h1
    exact zx_s_un X hdg h2 (sm (zx_k_un h2))
  case i2s =>
    have e9 : len = 1 := by simpa [zx_lok, zx_len] using hlen
    subst e9
    have h2 : zx_un .i2s pc L S h nc ns = some (.inl st) := h1
    exact zx_s_un X hdg h2 (sm (zx_k_un h2))
  case i2c =>
    have e9 : len = 1 := by simpa [zx_lok, zx_len] using hlen
    subst e9
    have h2 : zx_un .i2c pc L S h nc ns = some (.inl st) := h1
    exact zx_s_un X hdg h2 (sm (zx_k_un h2))
  case i2l =>
    have e9 : len = 1 := by simpa [zx_lok, zx_len] using hlen
    subst e9
    have h2 : zx_lng .i2l pc L S h nc ns = some (.inl st) := h1
    exact zx_s_lng X hdg h2 (sm (zx_k_lng h2))
  case l2i =>
    have e9 : len = 1 := by simpa [zx_lok, zx_len] using hlen
    subst e9
    have h2 : zx_lng .l2i pc L S h nc ns = some (.inl st) := h1
    exact zx_s_lng X hdg h2 (sm (zx_k_lng h2))
  case land =>
    have e9 : len = 1 := by simpa [zx_lok, zx_len] using hlen
    subst e9
    have h2 : zx_lng .land pc L S h nc ns = some (.inl st) := h1
    exact zx_s_lng X hdg h2 (sm (zx_k_lng h2))
  case lor =>
    have e9 : len = 1 := by simpa [zx_lok, zx_len] using hlen
    subst e9
    have h2 : zx_lng .lor pc L S h nc ns = some (.inl st) := h1
    exact zx_s_lng X hdg h2 (sm (zx_k_lng h2))
  case lshl =>
    have e9 : len = 1 := by simpa [zx_lok, zx_len] using hlen
    subst e9
    have h2 : zx_lng .lshl pc L S h nc ns = some (.inl st) := h1
    exact zx_s_lng X hdg h2 (sm (zx_k_lng h2))
  case dup =>
    have e9 : len = 1 := by simpa [zx_lok, zx_len] using hlen
    subst e9
    have h2 : zx_stk .dup pc L S h nc ns = some (.inl st) := h1
    exact zx_s_stk X hdg h2 (sm (zx_k_stk h2))
  case pop =>
    have e9 : len = 1 := by simpa [zx_lok, zx_len] using hlen
    subst e9
    have h2 : zx_stk .pop pc L S h nc ns = some (.inl st) := h1
    exact zx_s_stk X hdg h2 (sm (zx_k_stk h2))
  case dup_x1 =>
    have e9 : len = 1 := by simpa [zx_lok, zx_len] using hlen
    subst e9
    have h2 : zx_stk .dup_x1 pc L S h nc ns = some (.inl st) := h1
    exact zx_s_stk X hdg h2 (sm (zx_k_stk h2))
  case dup2 =>
    have e9 : len = 1 := by simpa [zx_lok, zx_len] using hlen
    subst e9
    have h2 : zx_stk .dup2 pc L S h nc ns = some (.inl st) := h1
    exact zx_s_stk X hdg h2 (sm (zx_k_stk h2))
  case pop2 =>
    have e9 : len = 1 := by simpa [zx_lok, zx_len] using hlen
    subst e9
    have h2 : zx_stk .pop2 pc L S h nc ns = some (.inl st) := h1
    exact zx_s_stk X hdg h2 (sm (zx_k_stk h2))
  case ifCond cn off =>
    have e9 : len = 3 := by simpa [zx_lok, zx_len] using hlen
    subst e9
    exact zx_s_if1 X hdg h1 (sm (zx_k_if1 h1))
  case if_icmp cn off =>
    have e9 : len = 3 := by simpa [zx_lok, zx_len] using hlen
    subst e9
    exact zx_s_if2 X hdg h1 (sm (zx_k_if2 h1))
  case goto off =>
    have e9 : len = 3 := by simpa [zx_lok, zx_len] using hlen
    subst e9
    exact zx_s_goto X hdg h1 (sm (zx_k_J h1))
  case tableswitch a b c2 d2 => exact zx_s_tsw X hdg h1 (sm (zx_k_tsw h1))
  case lookupswitch a b => exact zx_s_lsw X hdg h1 (sm (zx_k_lsw h1))
  case getfield ix =>
    have e9 : len = 3 := by simpa [zx_lok, zx_len] using hlen
    subst e9
    exact zx_s_gf X hdg h1 (sm (zx_k_gf h1))
  case putfield ix =>
    have e9 : len = 3 := by simpa [zx_lok, zx_len] using hlen
    subst e9
    exact zx_s_pf X hdg h1 (sm (zx_k_pf h1))
  case getstatic ix =>
    have e9 : len = 3 := by simpa [zx_lok, zx_len] using hlen
    subst e9
    exact zx_s_gs X hdg h1 (sm (zx_k_gs h1))
  case arraylength =>
    have e9 : len = 1 := by simpa [zx_lok, zx_len] using hlen
    subst e9
    exact zx_s_al X hdg h1 (sm (zx_k_al h1))
  case iaload =>
    have e9 : len = 1 := by simpa [zx_lok, zx_len] using hlen
    subst e9
    exact zx_s_ial X hdg h1 (sm (zx_k_ial h1))
  case iastore =>
    have e9 : len = 1 := by simpa [zx_lok, zx_len] using hlen
    subst e9
    exact zx_s_ias X hdg h1 (sm (zx_k_ias h1))
  case laload =>
    have e9 : len = 1 := by simpa [zx_lok, zx_len] using hlen
    subst e9
    exact zx_s_lal X hdg h1 (sm (zx_k_lal h1))
  case lastore =>
    have e9 : len = 1 := by simpa [zx_lok, zx_len] using hlen
    subst e9
    exact zx_s_las X hdg h1 (sm (zx_k_las h1))
  case baload =>
    have e9 : len = 1 := by simpa [zx_lok, zx_len] using hlen
    subst e9
    exact zx_s_bal X hdg h1 (sm (zx_k_bal h1))
  case aaload =>
    have e9 : len = 1 := by simpa [zx_lok, zx_len] using hlen
    subst e9
    exact zx_s_aal X hdg h1 (sm (zx_k_aal h1))
  case aastore =>
    have e9 : len = 1 := by simpa [zx_lok, zx_len] using hlen
    subst e9
    exact zx_s_aas X hdg h1 (sm (zx_k_aas h1))
  case ldc_w ix =>
    have e9 : len = 3 := by simpa [zx_lok, zx_len] using hlen
    subst e9
    exact zx_s_lcw X hdg h1 (sm (zx_k_lc h1))
  case ldc2_w ix =>
    have e9 : len = 3 := by simpa [zx_lok, zx_len] using hlen
    subst e9
    exact zx_s_lc2 X hdg h1 (sm (zx_k_lc2 h1))
  case ldc ix =>
    have e9 : len = 2 := by simpa [zx_lok, zx_len] using hlen
    subst e9
    exact zx_s_lc X hdg h1 (zx_lSok ix) (sm (zx_k_lc h1))
  case new ix =>
    have e9 : len = 3 := by simpa [zx_lok, zx_len] using hlen
    subst e9
    exact zx_s_new X hdg h1 hR K
  case newarray ty =>
    have e9 : len = 2 := by simpa [zx_lok, zx_len] using hlen
    subst e9
    exact zx_s_na X hdg h1 hR K
  case anewarray ix =>
    have e9 : len = 3 := by simpa [zx_lok, zx_len] using hlen
    subst e9
    exact zx_s_an X hdg h1 hR K
  case invokevirtual ix =>
    have e9 : len = 3 := by simpa [zx_lok, zx_len] using hlen
    subst e9
    exact zx_s_iv X hM hdg h1 hR K
  case invokestatic ix =>
    have e9 : len = 3 := by simpa [zx_lok, zx_len] using hlen
    subst e9
    exact zx_s_is X hM hdg h1 hR K
  case invokespecial ix =>
    have e9 : len = 3 := by simpa [zx_lok, zx_len] using hlen
    subst e9
    exact zx_s_ii X hM hdg h1 hR K
  case ireturn => exact (zx_noR (Or.inl h1)).elim
  case lreturn => exact (zx_noR (Or.inr (Or.inl h1))).elim
  case areturn => exact (zx_noR (Or.inr (Or.inr (Or.inl h1)))).elim
  case return_ => exact (zx_noR (Or.inr (Or.inr (Or.inr h1)))).elim
  all_goals (replace h1 : (none : zx_T) = some (.inl st) := h1; cases h1)
/-- one step -/
theorem zx_s_stp (X : zx_Cx p R s m args meth c fx vq ct A sc D t d) (hM : zx_Hm l fx vq ct A sc D d run) {st0 st1 : zx_S} (hLn : st0.2.1.length ≤ zx_mn t) (h1 : zx_stp sc run t st0 = some (.inl st1)) (hR : st1.2.2.2.2.1 ≤ R.cells ∧ st1.2.2.2.2.2 ≤ R.slots)
    (K : ∀ ad', zx_ext ad st0.2.2.2.1 ad' st1.2.2.2.1 → zx_Go p l e R s m args below meth c Q fx vq ct A D t ad' st1) : zx_Go p l e R s m args below meth c Q fx vq ct A D t ad st0 := by
  unfold zx_stp at h1
  split at h1
  · rename_i ins len hdg
    split at h1
    · rename_i hlen
      exact zx_s_ins X hM hLn hdg hlen h1 hR K
    · cases h1
  · cases h1
theorem zx_nc_stp {st0 st1 : zx_S} (h1 : zx_stp sc run t st0 = some (.inl st1)) : st1.2.1.length = st0.2.1.length ∧ st0.2.2.2.2.1 ≤ st1.2.2.2.2.1 ∧ st0.2.2.2.2.2 ≤ st1.2.2.2.2.2 := by
  unfold zx_stp at h1
  split at h1
  · split at h1
    · exact zx_nc_ins h1
    · cases h1
  · cases h1
end
end
