/-! part 06: the machine's states and the small machine's: what a value, a cell, a row of locals stands for -/
def zx_c (fx : Nat → Nat → Nat) (vq : Value) (ad : Nat → Nat) : zx_V → Value
  | .inl x => .int x
  | .inr (.inl y) => .long y
  | .inr (.inr (0, _)) => .null
  | .inr (.inr (1, i)) => .ref (ad i)
  | .inr (.inr (6, _)) => vq
  | .inr (.inr (t, i)) => .ref (fx t i)
def zx_e (fx : Nat → Nat → Nat) (vq : Value) (ct : Nat → ClassId) (ad : Nat → Nat) : zx_C → va_E
  | .inl (ci, fs) => .inr (ci, fs.map (zx_c fx vq ad))
  | .inr (t, .inl f) => .inl (ct t, f.length, .inl (fun j : Nat => f.getD j 0))
  | .inr (t, .inr (.inl f)) => .inl (ct t, f.length, .inr (.inl (fun j : Nat => f.getD j 0)))
  | .inr (t, .inr (.inr f)) => .inl (ct t, f.length, .inr (.inr (.inr (.inr (fun j : Nat => ((f[j]?).getD none).map ad)))))
def zx_w (fx : Nat → Nat → Nat) (vq : Value) (ct : Nat → ClassId) (ad : Nat → Nat) (h : List zx_C) : va_W := h.mapIdx (fun i c => (ad i, zx_e fx vq ct ad c))
def zx_l (fx : Nat → Nat → Nat) (vq : Value) (ad : Nat → Nat) (L : List (Option zx_V)) : List (Nat × Value) := L.zipIdx.filterMap (fun q => q.1.map (fun v => (q.2, zx_c fx vq ad v)))
def zx_ty : Nat → FieldType
  | 0 => .int
  | 1 => .long
  | 2 => .object RX3
  | _ => .object RX5
def zx_tys (ct : Nat → ClassId) : List (ClassId × FieldType) := [(ct 0, .int), (ct 1, .long), (ct 2, .object RX3), (ct 3, .object RX5)]
theorem zx_tyk {ct : Nat → ClassId} {t : Nat} (h : t < 4) : (zx_tys ct)[t]? = some (ct t, zx_ty t) := by
  rcases (show t = 0 ∨ t = 1 ∨ t = 2 ∨ t = 3 by omega) with rfl | rfl | rfl | rfl <;> rfl
theorem zx_clk {ci : Nat} (h : ci < 9) : zx_cl[ci]? = some (zx_R9 ci, zx_T8 ci, zx_fn ci) := by
  rcases (show ci = 0 ∨ ci = 1 ∨ ci = 2 ∨ ci = 3 ∨ ci = 4 ∨ ci = 5 ∨ ci = 6 ∨ ci = 7 ∨ ci = 8 by omega) with rfl | rfl | rfl | rfl | rfl | rfl | rfl | rfl | rfl <;> rfl
theorem zx_ok9 {ci : Nat} (h : ci < 9) : (∀ k, k < zx_fn ci → parseFieldDescriptor (zx_T8 ci k).2.2.1 = some (zx_ft ci k)) ∧ (∀ a, a < zx_fn ci → ∀ b, b < zx_fn ci → a ≠ b → (zx_T8 ci a).2.1 ≠ (zx_T8 ci b).2.1) := by
  rcases (show ci = 0 ∨ ci = 1 ∨ ci = 2 ∨ ci = 3 ∨ ci = 4 ∨ ci = 5 ∨ ci = 6 ∨ ci = 7 ∨ ci = 8 by omega) with rfl | rfl | rfl | rfl | rfl | rfl | rfl | rfl | rfl
  · exact ⟨tyX0_ok, nmX0⟩
  · exact ⟨tyX1_ok, nmX1⟩
  · exact ⟨tyX2_ok, nmX2⟩
  · exact ⟨tyX3_ok, nmX3⟩
  · exact ⟨tyX4_ok, nmX4⟩
  · exact ⟨tyX5_ok, nmX5⟩
  · exact ⟨tyX6_ok, nmX6⟩
  · exact ⟨tyX7_ok, nmX7⟩
  · exact ⟨tyX8_ok, nmX8⟩
section
variable {fx : Nat → Nat → Nat} {vq : Value} {ct : Nat → ClassId} {ad ad' : Nat → Nat} {h : List zx_C} {L : List (Option zx_V)}
theorem zx_w_get {i : Nat} {x : zx_C} (hc : h[i]? = some x) : (zx_w fx vq ct ad h)[i]? = some (ad i, zx_e fx vq ct ad x) := by
  unfold zx_w
  rw [List.getElem?_mapIdx, hc]
  rfl
theorem zx_w_set {i : Nat} {x : zx_C} : zx_w fx vq ct ad (h.set i x) = (zx_w fx vq ct ad h).set i (ad i, zx_e fx vq ct ad x) := by
  apply List.ext_getElem?
  intro j
  unfold zx_w
  rw [List.getElem?_mapIdx, List.getElem?_set, List.getElem?_set, List.getElem?_mapIdx, List.length_mapIdx]
  by_cases e : i = j
  · subst e
    by_cases e2 : i < h.length
    · simp [e2]
    · simp [e2]
  · simp [e]
theorem zx_l_mem {i : Nat} {w : Value} : (i, w) ∈ zx_l fx vq ad L ↔ ∃ v, L[i]? = some (some v) ∧ w = zx_c fx vq ad v := by
  unfold zx_l
  rw [List.mem_filterMap]
  constructor
  · rintro ⟨⟨o, j⟩, h1, h2⟩
    have h1' := List.mem_zipIdx_iff_getElem?.mp h1
    cases o with
    | none => cases h2
    | some v =>
      have h2' : (j, zx_c fx vq ad v) = (i, w) := Option.some.inj h2
      injection h2' with a b
      subst a
      exact ⟨v, h1', b.symm⟩
  · rintro ⟨v, h1, rfl⟩
    exact ⟨(some v, i), List.mem_zipIdx_iff_getElem?.mpr h1, rfl⟩
theorem zx_l_get {ls : Array Slot} {n i : Nat} {v : zx_V} (hl : lv_has ls n (zx_l fx vq ad L)) (hv : L[i]? = some (some v)) : ls[i]? = some (.val (zx_c fx vq ad v)) := hl.2.2 (i, _) (zx_l_mem.mpr ⟨v, hv, rfl⟩)
theorem zx_l_sub {ls : Array Slot} {n : Nat} {a b : List (Nat × Value)} (hl : lv_has ls n a) (hs : ∀ q ∈ b, q ∈ a) : lv_has ls n b := ⟨hl.1, hl.2.1, fun q hq => hl.2.2 q (hs q hq)⟩
theorem zx_kd0 {v : zx_V} (h : zx_kd v = 0) : ∃ x, v = .inl x := by
  rcases v with x | x | x
  · exact ⟨x, rfl⟩
  · cases h
  · cases h
theorem zx_kd1 {v : zx_V} (h : zx_kd v = 1) : ∃ x, v = .inr (.inl x) := by
  rcases v with x | x | x
  · cases h
  · exact ⟨x, rfl⟩
  · cases h
theorem zx_kd2 (hq : vq = .null ∨ ∃ t, vq = .ref t) {v : zx_V} (h : zx_kd v = 2) : zx_c fx vq ad v = .null ∨ ∃ a, zx_c fx vq ad v = .ref a := by
  rcases v with x | x | ⟨t, i⟩
  · cases h
  · cases h
  · unfold zx_c
    split <;> first | exact Or.inl rfl | exact hq | exact Or.inr ⟨_, rfl⟩ | (rename_i e; cases e)
theorem zx_cat (hq : vq = .null ∨ ∃ t, vq = .ref t) (v : zx_V) : (zx_c fx vq ad v).category = if zx_c1 v then 1 else 2 := by
  rcases v with x | x | y
  · rfl
  · rfl
  · rcases zx_kd2 (fx := fx) (ad := ad) hq (v := .inr (.inr y)) rfl with e | ⟨a, e⟩ <;> rw [e] <;> rfl
theorem zx_cat1 (hq : vq = .null ∨ ∃ t, vq = .ref t) {v : zx_V} (h : zx_c1 v = true) : (zx_c fx vq ad v).category = 1 := by rw [zx_cat hq, h]; rfl
theorem zx_cat2 (hq : vq = .null ∨ ∃ t, vq = .ref t) {v : zx_V} (h : ¬ zx_c1 v = true) : (zx_c fx vq ad v).category = 2 := by rw [zx_cat hq, if_neg h]
theorem zx_sum (hq : vq = .null ∨ ∃ t, vq = .ref t) : ∀ r : List zx_V, ((r.map (zx_c fx vq ad)).map fun v => v.category).sum = zx_cs r
  | [] => rfl
  | v :: r => by
    show (zx_c fx vq ad v).category + ((r.map (zx_c fx vq ad)).map fun v => v.category).sum = _
    rw [zx_sum hq r, zx_cat hq]
    rfl
-- storing
theorem zx_cl1_len (L : List (Option zx_V)) (i : Nat) : (zx_cl1 L i).length = L.length := by
  cases i with
  | zero => rfl
  | succ i =>
    show (match L[i]? with | some (some (.inr (.inl _))) => L.set i none | _ => L).length = _
    split
    · rw [List.length_set]
    · rfl
theorem zx_cl1_get {i j : Nat} {v : zx_V} (h : (zx_cl1 L i)[j]? = some (some v)) : L[j]? = some (some v) ∧ ¬ (j + 1 = i ∧ (zx_c fx vq ad v).category = 2 ∧ zx_c1 v = false) := by
  cases i with
  | zero => exact ⟨h, by omega⟩
  | succ i =>
    have h2 : (match L[i]? with | some (some (.inr (.inl _))) => L.set i none | _ => L)[j]? = some (some v) := h
    split at h2
    · rename_i z e
      rw [List.getElem?_set] at h2
      by_cases q : i = j
      · rw [if_pos q] at h2
        split at h2 <;> cases h2
      · rw [if_neg q] at h2
        exact ⟨h2, fun w => q (by omega)⟩
    · rename_i e
      refine ⟨h2, fun w => ?_⟩
      have ej : j = i := by omega
      subst ej
      rcases v with x | x | x
      · cases w.2.2
      · exact e x h2
      · cases w.2.2
theorem zx_l_set1 (hq : vq = .null ∨ ∃ t, vq = .ref t) {i : Nat} {v : zx_V} : ∀ q ∈ zx_l fx vq ad ((zx_cl1 L i).set i (some v)), q ∈ (i, zx_c fx vq ad v) :: (zx_l fx vq ad L).filter (fun q => !(q.1 == i) && !(q.1 + 1 == i && q.2.category == 2)) := by
  rintro ⟨j, w⟩ hm
  obtain ⟨u, h1, rfl⟩ := zx_l_mem.mp hm
  rw [List.getElem?_set] at h1
  by_cases e : i = j
  · subst e
    rw [if_pos rfl] at h1
    split at h1
    · have e2 : v = u := Option.some.inj (Option.some.inj h1)
      rw [e2]
      exact List.mem_cons_self
    · cases h1
  · rw [if_neg e] at h1
    obtain ⟨h2, h3⟩ := zx_cl1_get (fx := fx) (vq := vq) (ad := ad) h1
    refine List.mem_cons_of_mem _ (List.mem_filter.mpr ⟨zx_l_mem.mpr ⟨u, h2, rfl⟩, ?_⟩)
    have n1 : ¬ j = i := fun z => e z.symm
    by_cases e3 : j + 1 = i
    · have n2 : ¬ (zx_c fx vq ad u).category = 2 := fun z => h3 ⟨e3, z, by
        by_cases y : zx_c1 u = true
        · rw [zx_cat1 hq y] at z; omega
        · simpa using y⟩
      simp [n1, n2]
    · simp [n1, e3]
theorem zx_l_set2 (hq : vq = .null ∨ ∃ t, vq = .ref t) {i : Nat} {v : zx_V} : ∀ q ∈ zx_l fx vq ad (((zx_cl1 L i).set i (some v)).set (i + 1) none), q ∈ (i, zx_c fx vq ad v) :: (zx_l fx vq ad L).filter (fun q => !(q.1 == i) && (!(q.1 == i + 1) && !(q.1 + 1 == i && q.2.category == 2))) := by
  rintro ⟨j, w⟩ hm
  obtain ⟨u, h1, rfl⟩ := zx_l_mem.mp hm
  rw [List.getElem?_set] at h1
  by_cases e0 : i + 1 = j
  · rw [if_pos e0] at h1
    split at h1 <;> cases h1
  · rw [if_neg e0] at h1
    have h4 := zx_l_set1 (fx := fx) (ad := ad) (L := L) hq (i := i) (v := v) (j, zx_c fx vq ad u) (zx_l_mem.mpr ⟨u, h1, rfl⟩)
    rcases List.mem_cons.mp h4 with h5 | h5
    · rw [h5]
      exact List.mem_cons_self
    · obtain ⟨h6, h7⟩ := List.mem_filter.mp h5
      refine List.mem_cons_of_mem _ (List.mem_filter.mpr ⟨h6, ?_⟩)
      have n0 : ¬ j = i + 1 := fun z => e0 z.symm
      simp only [Bool.and_eq_true] at h7 ⊢
      exact ⟨h7.1, by simp [n0], h7.2⟩
-- another row of addresses
theorem zx_c_ad {n : Nat} (hd : ∀ i, i < n → ad' i = ad i) {v : zx_V} (hv : zx_vl n v = true) : zx_c fx vq ad' v = zx_c fx vq ad v := by
  rcases v with x | x | ⟨t, i⟩
  · rfl
  · rfl
  · unfold zx_c
    split <;> try rfl
    rename_i e
    have e2 := Sum.inr.inj (Sum.inr.inj e)
    injection e2 with e3 e4
    subst e3 e4
    rw [hd _ (by simpa [zx_vl] using hv)]
theorem zx_S_ad {n : Nat} (hd : ∀ i, i < n → ad' i = ad i) {S : List zx_V} (hv : S.all (zx_vl n) = true) : S.map (zx_c fx vq ad') = S.map (zx_c fx vq ad) :=
  List.map_congr_left fun v h => zx_c_ad hd (List.all_eq_true.mp hv v h)
theorem zx_l_ad {n : Nat} (hd : ∀ i, i < n → ad' i = ad i) (hv : L.all (zx_vo n) = true) : ∀ q ∈ zx_l fx vq ad' L, q ∈ zx_l fx vq ad L := by
  rintro ⟨j, w⟩ hm
  obtain ⟨u, h1, rfl⟩ := zx_l_mem.mp hm
  rw [zx_c_ad hd (List.all_eq_true.mp hv (some u) (List.mem_of_getElem? h1))]
  exact zx_l_mem.mpr ⟨u, h1, rfl⟩
theorem zx_e_ad {n : Nat} (hd : ∀ i, i < n → ad' i = ad i) {x : zx_C} (hv : zx_vc n x = true) : zx_e fx vq ct ad' x = zx_e fx vq ct ad x := by
  rcases x with ⟨ci, fs⟩ | ⟨t, f | f | f⟩
  · show Sum.inr (ci, fs.map _) = Sum.inr (ci, fs.map _)
    rw [zx_S_ad hd hv]
  · rfl
  · rfl
  · show Sum.inl (ct t, f.length, Sum.inr (Sum.inr (Sum.inr (Sum.inr (fun j : Nat => ((f[j]?).getD none).map ad'))))) = Sum.inl (ct t, f.length, Sum.inr (Sum.inr (Sum.inr (Sum.inr (fun j : Nat => ((f[j]?).getD none).map ad)))))
    have e : (fun j : Nat => ((f[j]?).getD none).map ad') = (fun j : Nat => ((f[j]?).getD none).map ad) := by
      funext j
      cases e : f[j]? with
      | none => rfl
      | some o =>
        cases o with
        | none => rfl
        | some i =>
          have h1 := List.all_eq_true.mp hv (some i) (List.mem_of_getElem? e)
          show some (ad' i) = some (ad i)
          rw [hd i (by simpa using h1)]
    rw [e]
theorem zx_w_ad (hd : ∀ i, i < h.length → ad' i = ad i) (hv : h.all (zx_vc h.length) = true) : zx_w fx vq ct ad' h = zx_w fx vq ct ad h := by
  unfold zx_w
  apply List.ext_getElem?
  intro j
  rw [List.getElem?_mapIdx, List.getElem?_mapIdx]
  cases e : h[j]? with
  | none => rfl
  | some x =>
    have hj : j < h.length := (List.getElem?_eq_some_iff.mp e).1
    show some (ad' j, zx_e fx vq ct ad' x) = some (ad j, zx_e fx vq ct ad x)
    rw [hd j hj, zx_e_ad hd (List.all_eq_true.mp hv x (List.mem_of_getElem? e))]
theorem zx_w_app {q : Nat} {x : zx_C} (hv : h.all (zx_vc h.length) = true) : zx_w fx vq ct (va_up ad h.length q) (h ++ [x]) = zx_w fx vq ct ad h ++ [(q, zx_e fx vq ct (va_up ad h.length q) x)] := by
  have e1 : zx_w fx vq ct (va_up ad h.length q) (h ++ [x]) = zx_w fx vq ct (va_up ad h.length q) h ++ [((va_up ad h.length q) h.length, zx_e fx vq ct (va_up ad h.length q) x)] := by
    unfold zx_w
    rw [List.mapIdx_concat]
  rw [e1, zx_w_ad (ad := ad) (fun i hi => by unfold va_up; rw [if_neg (by omega)]) hv]
  have e2 : va_up ad h.length q h.length = q := by unfold va_up; rw [if_pos rfl]
  rw [e2]
end
