/-! part 07: each step of the small machine is a step of the machine -/
def zx_St (fx : Nat → Nat → Nat) (vq : Value) (A : Nat → Prop) (sc : zx_Sc) (U : State) (H : Heap) : Prop :=
  (∀ w ∈ zx_nw, va_Nw w U) ∧ va_AO RX3 U ∧ va_AO RX5 U ∧
  (∀ i : Nat, ∀ q : String × Nat × Nat, zx_st[i]? = some q → vk_R RX4 q.2.1 q.1 (fx 2 i) U) ∧
  vk_S 12 zx_sl zx_sb (fx 2) (fx 3) A U H ∧
  (∀ i : Nat, i < 5 → va_Z (zx_sx i).1 (zx_sx i).2.1 (zx_sx i).2.2 (.ref (fx 4 i)) A U H ∧ va_T .int (fx 4 i) (zx_sa.getD i []).length (fun j => .int ((zx_sa.getD i []).getD j 0)) A U H) ∧
  va_Z (zx_sx 5).1 (zx_sx 5).2.1 (zx_sx 5).2.2 (.int 1) A U H ∧ va_Z (zx_sx 6).1 (zx_sx 6).2.1 (zx_sx 6).2.2 vq A U H ∧ (vq = .null ∨ ∃ t, vq = .ref t) ∧
  (∀ q : Nat × (Nat → Int32), sc = some q → va_X (fx 5 0) q.1 q.2 U H ∧ fx 5 0 < H.size ∧ ¬ A (fx 5 0))
theorem zx_lk_mem {α : Type} {l : List (List (Nat × α))} {o i : Nat} {a : α} (h : zx_lk l o i = some a) : ∃ r, l[o]? = some r ∧ (i, a) ∈ r := by
  unfold zx_lk at h
  split at h
  · rename_i r e
    refine ⟨r, e, ?_⟩
    clear e
    induction r with
    | nil => cases h
    | cons q r ih =>
      obtain ⟨k, b⟩ := q
      rw [List.lookup_cons] at h
      split at h
      · rename_i e
        have e2 : i = k := by simpa using e
        cases h
        subst e2
        exact List.mem_cons_self
      · exact List.mem_cons_of_mem _ (ih h)
  · cases h
theorem zx_cka_use {α : Type} {l : List (List (Nat × α))} {f : Nat → Nat × α → Bool} (hk : zx_cka l f = true) {o i : Nat} {a : α} (h : zx_lk l o i = some a) : f o (i, a) = true := by
  obtain ⟨r, h1, h2⟩ := zx_lk_mem h
  have h3 := List.all_eq_true.mp hk (r, o) (List.mem_zipIdx_iff_getElem?.mpr h1)
  exact List.all_eq_true.mp h3 (i, a) h2
theorem zx_Ni {pc : Nat} {L : List (Option zx_V)} {S : List zx_V} {h : List zx_C} {nc ns : Nat} {st : zx_S} (e : zx_N pc L S h nc ns = some (.inl st)) : st = (pc, L, S, h, nc, ns) := (Sum.inl.inj (Option.some.inj e)).symm
theorem zx_Ji {pc : Nat} {off : Int} {L : List (Option zx_V)} {S : List zx_V} {h : List zx_C} {nc ns : Nat} {st : zx_S} (e : zx_J pc off L S h nc ns = some (.inl st)) : ∃ tgt : Nat, (pc : Int) + off = (tgt : Int) ∧ st = (tgt, L, S, h, nc, ns) := by
  unfold zx_J at e
  split at e
  · rename_i g
    exact ⟨_, (Int.toNat_of_nonneg g).symm, zx_Ni e⟩
  · cases e
theorem zx_vin {i : Int32} {n : Nat} (h : ¬ i < 0 ∧ i.toNatClampNeg < n) : vp_in i n := fun q => q.elim h.1 (fun z => absurd h.2 (Nat.not_lt.mpr z))
section
variable {p : Program} {l : Launch} {e : Env} {R : Room} {s : State} {m : MethodId} {args : Array Value} {below : List Frame} {meth : Method} {c : Code} {Q : State → Prop}
variable {fx : Nat → Nat → Nat} {vq : Value} {ct : Nat → ClassId} {ad : Nat → Nat} {A : Nat → Prop} {sc : zx_Sc} {D : va_G} {t : zx_MT} {d : Nat}
variable {pc nc ns : Nat} {L : List (Option zx_V)} {S : List zx_V} {h : List zx_C} {st : zx_S}
/-- what stays true all through a method -/
def zx_Cx (p : Program) (R : Room) (s : State) (m : MethodId) (args : Array Value) (meth : Method) (c : Code) (fx : Nat → Nat → Nat) (vq : Value) (ct : Nat → ClassId) (A : Nat → Prop) (sc : zx_Sc) (D : va_G) (t : zx_MT) (d : Nat) : Prop :=
  p.tables.exec = Jvm.exec ∧ c.code = zx_mb t ∧ c.maxLocals = zx_mn t ∧ s.vm.findClass (zx_o (zx_mo t)) = some m.cls ∧ (∀ w ∈ zx_G, w.before args s = true) ∧ va_K D zx_cl (zx_tys ct) s ∧ (∀ q : Nat, s.heap.size ≤ q → A q) ∧ zx_St fx vq A sc s s.heap ∧ (d + 1 ≤ R.frames ∧ 40 * d + 40 ≤ R.locals) ∧ (zx_mk t = 2 → meth.name = "<init>")
/-- from this state of the small machine the machine comes to an end with Q -/
def zx_Go (p : Program) (l : Launch) (e : Env) (R : Room) (s : State) (m : MethodId) (args : Array Value) (below : List Frame) (meth : Method) (c : Code) (Q : State → Prop) (fx : Nat → Nat → Nat) (vq : Value) (ct : Nat → ClassId) (A : Nat → Prop) (D : va_G) (t : zx_MT) (ad : Nat → Nat) (st : zx_S) : Prop :=
  ∀ (H : Heap) (locs : List Loc) (ls : Array Slot), va_P D zx_cl (zx_w fx vq ct ad st.2.2.2.1) H → va_D A (zx_w fx vq ct ad st.2.2.2.1) → va_S A s.heap H locs → lv_has ls (zx_mn t) (zx_l fx vq ad st.2.1) →
    W p l e R s m args below meth c H locs st.2.2.2.2.1 st.2.2.2.2.2 Q (F0 m st.1 ls (st.2.2.1.map (zx_c fx vq ad)))
theorem zx_s_ld {ty i n : Nat} {v : zx_V} (h1 : zx_ld ty i n pc L S h nc ns = some (.inl st)) : ∃ v, L[i]? = some (some v) ∧ zx_kd v = ty ∧ st = (pc + n, L, v :: S, h, nc, ns) := by
  unfold zx_ld at h1
  split at h1
  · rename_i v e
    split at h1
    · rename_i g
      exact ⟨v, e, g, zx_Ni h1⟩
    · cases h1
  · cases h1
theorem zx_s_load (X : zx_Cx p R s m args meth c fx vq ct A sc D t d) {ty i n : Nat} (h1 : zx_ld ty i n pc L S h nc ns = some (.inl st))
    (h0 : ∀ {x : Int32} {ls : Array Slot} {rest : List Value} {H : Heap} {locs : List Loc}, ty = 0 → ls[i]? = some (.val (.int x)) → W p l e R s m args below meth c H locs nc ns Q (F0 m (pc + n) ls (.int x :: rest)) → W p l e R s m args below meth c H locs nc ns Q (F0 m pc ls rest))
    (h2 : ∀ {x : Int64} {ls : Array Slot} {rest : List Value} {H : Heap} {locs : List Loc}, ty = 1 → ls[i]? = some (.val (.long x)) → W p l e R s m args below meth c H locs nc ns Q (F0 m (pc + n) ls (.long x :: rest)) → W p l e R s m args below meth c H locs nc ns Q (F0 m pc ls rest))
    (h3 : ∀ {x : Nat} {ls : Array Slot} {rest : List Value} {H : Heap} {locs : List Loc}, ty = 2 → ls[i]? = some (.val (.ref x)) → W p l e R s m args below meth c H locs nc ns Q (F0 m (pc + n) ls (.ref x :: rest)) → W p l e R s m args below meth c H locs nc ns Q (F0 m pc ls rest))
    (h4 : ∀ {ls : Array Slot} {rest : List Value} {H : Heap} {locs : List Loc}, ty = 2 → ls[i]? = some (.val .null) → W p l e R s m args below meth c H locs nc ns Q (F0 m (pc + n) ls (.null :: rest)) → W p l e R s m args below meth c H locs nc ns Q (F0 m pc ls rest))
    (hty : ty < 3) (K : zx_Go p l e R s m args below meth c Q fx vq ct A D t ad st) : zx_Go p l e R s m args below meth c Q fx vq ct A D t ad (pc, L, S, h, nc, ns) := by
  obtain ⟨v, hv, hk, rfl⟩ := zx_s_ld (v := .inl 0) h1
  obtain ⟨-, -, -, -, -, -, -, hSt, -, -⟩ := X
  have hq := hSt.2.2.2.2.2.2.2.2.1
  intro H locs ls hP hD hS hl
  have k := K H locs ls hP hD hS hl
  have g := zx_l_get hl hv
  rcases (show ty = 0 ∨ ty = 1 ∨ ty = 2 by omega) with rfl | rfl | rfl
  · obtain ⟨x, rfl⟩ := zx_kd0 hk
    exact h0 rfl g k
  · obtain ⟨x, rfl⟩ := zx_kd1 hk
    exact h2 rfl g k
  · have k2 : W p l e R s m args below meth c H locs nc ns Q (F0 m (pc + n) ls (zx_c fx vq ad v :: S.map (zx_c fx vq ad))) := k
    rcases zx_kd2 (fx := fx) (ad := ad) hq hk with e1 | ⟨a, e1⟩
    · rw [e1] at g k2
      exact h4 rfl g k2
    · rw [e1] at g k2
      exact h3 rfl g k2
theorem zx_s_store (X : zx_Cx p R s m args meth c fx vq ct A sc D t d) {ty i n : Nat} (h1 : zx_sto ty i n pc L S h nc ns = some (.inl st)) (hLn : L.length ≤ zx_mn t)
    (h0 : ∀ {x : Int32} {ls : Array Slot} {rest : List Value} {H : Heap} {locs : List Loc} {lv : List (Nat × Value)}, ty = 0 → lv_has ls (zx_mn t) lv → i < zx_mn t → (∀ ls' : Array Slot, lv_has ls' (zx_mn t) ((i, Value.int x) :: lv.filter (fun q => !(q.1 == i) && !(q.1 + 1 == i && q.2.category == 2))) → W p l e R s m args below meth c H locs nc ns Q (F0 m (pc + n) ls' rest)) → W p l e R s m args below meth c H locs nc ns Q (F0 m pc ls (.int x :: rest)))
    (h3 : ∀ {x : Nat} {ls : Array Slot} {rest : List Value} {H : Heap} {locs : List Loc} {lv : List (Nat × Value)}, ty = 2 → lv_has ls (zx_mn t) lv → i < zx_mn t → (∀ ls' : Array Slot, lv_has ls' (zx_mn t) ((i, Value.ref x) :: lv.filter (fun q => !(q.1 == i) && !(q.1 + 1 == i && q.2.category == 2))) → W p l e R s m args below meth c H locs nc ns Q (F0 m (pc + n) ls' rest)) → W p l e R s m args below meth c H locs nc ns Q (F0 m pc ls (.ref x :: rest)))
    (h4 : ∀ {ls : Array Slot} {rest : List Value} {H : Heap} {locs : List Loc} {lv : List (Nat × Value)}, ty = 2 → lv_has ls (zx_mn t) lv → i < zx_mn t → (∀ ls' : Array Slot, lv_has ls' (zx_mn t) ((i, Value.null) :: lv.filter (fun q => !(q.1 == i) && !(q.1 + 1 == i && q.2.category == 2))) → W p l e R s m args below meth c H locs nc ns Q (F0 m (pc + n) ls' rest)) → W p l e R s m args below meth c H locs nc ns Q (F0 m pc ls (.null :: rest)))
    (hty : ty = 0 ∨ ty = 2) (K : zx_Go p l e R s m args below meth c Q fx vq ct A D t ad st) : zx_Go p l e R s m args below meth c Q fx vq ct A D t ad (pc, L, S, h, nc, ns) := by
  obtain ⟨-, -, -, -, -, -, -, hSt, -, -⟩ := X
  have hq := hSt.2.2.2.2.2.2.2.2.1
  unfold zx_sto at h1
  split at h1
  · rename_i v r
    split at h1
    · rename_i g
      obtain ⟨hk, hc1, hi⟩ := g
      obtain rfl := zx_Ni h1
      intro H locs ls hP hD hS hl
      have hin : i < zx_mn t := by omega
      have k : ∀ ls' : Array Slot, lv_has ls' (zx_mn t) ((i, zx_c fx vq ad v) :: (zx_l fx vq ad L).filter (fun q => !(q.1 == i) && !(q.1 + 1 == i && q.2.category == 2))) → W p l e R s m args below meth c H locs nc ns Q (F0 m (pc + n) ls' (r.map (zx_c fx vq ad))) := fun ls' h' => K H locs ls' hP hD hS (zx_l_sub h' (zx_l_set1 hq))
      show W p l e R s m args below meth c H locs nc ns Q (F0 m pc ls (zx_c fx vq ad v :: r.map (zx_c fx vq ad)))
      rcases hty with rfl | rfl
      · obtain ⟨x, rfl⟩ := zx_kd0 hk
        exact h0 rfl hl hin k
      · rcases zx_kd2 (fx := fx) (ad := ad) hq hk with e1 | ⟨a, e1⟩
        · rw [e1] at k ⊢
          exact h4 rfl hl hin k
        · rw [e1] at k ⊢
          exact h3 rfl hl hin k
    · cases h1
  · cases h1
theorem zx_s_stl (X : zx_Cx p R s m args meth c fx vq ct A sc D t d) {i n : Nat} (h1 : zx_stl i n pc L S h nc ns = some (.inl st)) (hLn : L.length ≤ zx_mn t)
    (h0 : ∀ {x : Int64} {ls : Array Slot} {rest : List Value} {H : Heap} {locs : List Loc} {lv : List (Nat × Value)}, lv_has ls (zx_mn t) lv → i + 1 < zx_mn t → (∀ ls' : Array Slot, lv_has ls' (zx_mn t) ((i, Value.long x) :: lv.filter (fun q => !(q.1 == i) && (!(q.1 == i + 1) && !(q.1 + 1 == i && q.2.category == 2)))) → W p l e R s m args below meth c H locs nc ns Q (F0 m (pc + n) ls' rest)) → W p l e R s m args below meth c H locs nc ns Q (F0 m pc ls (.long x :: rest)))
    (K : zx_Go p l e R s m args below meth c Q fx vq ct A D t ad st) : zx_Go p l e R s m args below meth c Q fx vq ct A D t ad (pc, L, S, h, nc, ns) := by
  obtain ⟨-, -, -, -, -, -, -, hSt, -, -⟩ := X
  have hq := hSt.2.2.2.2.2.2.2.2.1
  unfold zx_stl at h1
  split at h1
  · split at h1
    · rename_i x r g
      obtain rfl := zx_Ni h1
      intro H locs ls hP hD hS hl
      exact h0 hl (by omega) (fun ls' h' => K H locs ls' hP hD hS (zx_l_sub h' (zx_l_set2 hq)))
    · cases h1
  · cases h1
theorem zx_s_iinc (X : zx_Cx p R s m args meth c fx vq ct A sc D t d) {i : Nat} {z : Int} (hdg : decode (zx_mb t) pc = .ok (.iinc i z, 3)) (h1 : zx_iinc i z pc L S h nc ns = some (.inl st)) (hLn : L.length ≤ zx_mn t)
    (K : zx_Go p l e R s m args below meth c Q fx vq ct A D t ad st) : zx_Go p l e R s m args below meth c Q fx vq ct A D t ad (pc, L, S, h, nc, ns) := by
  obtain ⟨hx, hb, -, -, -, -, -, hSt, -, -⟩ := X
  have hq := hSt.2.2.2.2.2.2.2.2.1
  unfold zx_iinc at h1
  split at h1
  · rename_i x g
    obtain rfl := zx_Ni h1
    intro H locs ls hP hD hS hl
    have hi : i < L.length := (List.getElem?_eq_some_iff.mp g).1
    have hm : (i, Value.int x) ∈ zx_l fx vq ad L := zx_l_mem.mpr ⟨_, g, rfl⟩
    obtain ⟨k, hk⟩ := List.getElem?_of_mem hm
    exact lv_iinc hx hb hdg hl hk rfl (by omega) rfl (fun ls' h' => K H locs ls' hP hD hS (zx_l_sub h' (zx_l_set1 (v := .inl (x + Int32.ofInt z)) hq)))
  · cases h1
theorem zx_s_bin (X : zx_Cx p R s m args meth c fx vq ct A sc D t d) {ins : Instr} (hdg : decode (zx_mb t) pc = .ok (ins, 1)) (h1 : zx_bin ins pc L S h nc ns = some (.inl st))
    (K : zx_Go p l e R s m args below meth c Q fx vq ct A D t ad st) : zx_Go p l e R s m args below meth c Q fx vq ct A D t ad (pc, L, S, h, nc, ns) := by
  obtain ⟨hx, hb, -⟩ := X
  unfold zx_bin at h1
  split at h1
  · rename_i y x r
    split at h1
    · rename_i z g
      obtain rfl := zx_Ni h1
      intro H locs ls hP hD hS hl
      have k := K H locs ls hP hD hS hl
      unfold zx_b2 at g
      split at g
      · cases g; exact lv_iadd hx hb hdg k
      · cases g; exact lv_isub hx hb hdg k
      · cases g; exact lv_imul hx hb hdg k
      · cases g; exact lv_iand hx hb hdg k
      · cases g; exact lv_ior hx hb hdg k
      · cases g; exact lv_ixor hx hb hdg k
      · cases g; exact lv_ishl hx hb hdg k
      · cases g; exact lv_ishr hx hb hdg k
      · cases g; exact lv_iushr hx hb hdg rfl k
      · split at g
        · cases g
        · rename_i hne; cases g; exact lv_idiv hx hb hdg hne k
      · split at g
        · cases g
        · rename_i hne; cases g; exact lv_irem hx hb hdg hne k
      · cases g
    · cases h1
  · cases h1
theorem zx_s_un (X : zx_Cx p R s m args meth c fx vq ct A sc D t d) {ins : Instr} (hdg : decode (zx_mb t) pc = .ok (ins, 1)) (h1 : zx_un ins pc L S h nc ns = some (.inl st))
    (K : zx_Go p l e R s m args below meth c Q fx vq ct A D t ad st) : zx_Go p l e R s m args below meth c Q fx vq ct A D t ad (pc, L, S, h, nc, ns) := by
  obtain ⟨hx, hb, -⟩ := X
  unfold zx_un at h1
  split at h1
  · split at h1
    · rename_i z g
      obtain rfl := zx_Ni h1
      intro H locs ls hP hD hS hl
      have k := K H locs ls hP hD hS hl
      unfold zx_b1 at g
      split at g
      · cases g; exact lv_ineg hx hb hdg k
      · cases g; exact lv_i2b hx hb hdg rfl k
      · cases g; exact lv_i2s hx hb hdg rfl k
      · cases g; exact lv_i2c hx hb hdg rfl k
      · cases g
    · cases h1
  · cases h1
theorem zx_s_lng (X : zx_Cx p R s m args meth c fx vq ct A sc D t d) {ins : Instr} (hdg : decode (zx_mb t) pc = .ok (ins, 1)) (h1 : zx_lng ins pc L S h nc ns = some (.inl st))
    (K : zx_Go p l e R s m args below meth c Q fx vq ct A D t ad st) : zx_Go p l e R s m args below meth c Q fx vq ct A D t ad (pc, L, S, h, nc, ns) := by
  obtain ⟨hx, hb, -⟩ := X
  unfold zx_lng at h1
  split at h1
  · obtain rfl := zx_Ni h1
    intro H locs ls hP hD hS hl
    exact lv_i2l hx hb hdg rfl (K H locs ls hP hD hS hl)
  · obtain rfl := zx_Ni h1
    intro H locs ls hP hD hS hl
    exact lv_l2i hx hb hdg rfl (K H locs ls hP hD hS hl)
  · obtain rfl := zx_Ni h1
    intro H locs ls hP hD hS hl
    exact lv_land hx hb hdg (K H locs ls hP hD hS hl)
  · obtain rfl := zx_Ni h1
    intro H locs ls hP hD hS hl
    exact lv_lor hx hb hdg (K H locs ls hP hD hS hl)
  · obtain rfl := zx_Ni h1
    intro H locs ls hP hD hS hl
    exact lv_lshl hx hb hdg rfl (K H locs ls hP hD hS hl)
  · cases h1
theorem zx_s_stk (X : zx_Cx p R s m args meth c fx vq ct A sc D t d) {ins : Instr} (hdg : decode (zx_mb t) pc = .ok (ins, 1)) (h1 : zx_stk ins pc L S h nc ns = some (.inl st))
    (K : zx_Go p l e R s m args below meth c Q fx vq ct A D t ad st) : zx_Go p l e R s m args below meth c Q fx vq ct A D t ad (pc, L, S, h, nc, ns) := by
  obtain ⟨hx, hb, -, -, -, -, -, hSt, -, -⟩ := X
  have hq := hSt.2.2.2.2.2.2.2.2.1
  unfold zx_stk at h1
  split at h1
  · split at h1
    · rename_i g
      obtain rfl := zx_Ni h1
      intro H locs ls hP hD hS hl
      exact lv_dup hx hb hdg (zx_cat1 hq g) (K H locs ls hP hD hS hl)
    · cases h1
  · split at h1
    · rename_i g
      obtain rfl := zx_Ni h1
      intro H locs ls hP hD hS hl
      exact lv_pop hx hb hdg (zx_cat1 hq g) (K H locs ls hP hD hS hl)
    · cases h1
  · split at h1
    · rename_i g
      obtain rfl := zx_Ni h1
      intro H locs ls hP hD hS hl
      exact lv_dup_x1 hx hb hdg (zx_cat1 hq g.1) (zx_cat1 hq g.2) (K H locs ls hP hD hS hl)
    · cases h1
  · split at h1
    · rename_i g
      obtain rfl := zx_Ni h1
      intro H locs ls hP hD hS hl
      exact lv_dup2_11 hx hb hdg (zx_cat1 hq g.1) (zx_cat1 hq g.2) (K H locs ls hP hD hS hl)
    · cases h1
  · split at h1
    · cases h1
    · rename_i g
      obtain rfl := zx_Ni h1
      intro H locs ls hP hD hS hl
      exact lv_pop2_2 hx hb hdg (zx_cat2 hq g) (K H locs ls hP hD hS hl)
  · cases h1
theorem zx_s_br {b : Bool} {off : Int} {r : List zx_V} {S0 : List zx_V} (h1 : zx_br b off pc L r h nc ns = some (.inl st))
    (kk : ∀ {tgt : Nat} {ls : Array Slot} {H : Heap} {locs : List Loc}, (pc : Int) + off = (tgt : Int) → (b = true → W p l e R s m args below meth c H locs nc ns Q (F0 m tgt ls (r.map (zx_c fx vq ad)))) → (b = false → W p l e R s m args below meth c H locs nc ns Q (F0 m (pc + 3) ls (r.map (zx_c fx vq ad)))) → W p l e R s m args below meth c H locs nc ns Q (F0 m pc ls (S0.map (zx_c fx vq ad))))
    (K : zx_Go p l e R s m args below meth c Q fx vq ct A D t ad st) : zx_Go p l e R s m args below meth c Q fx vq ct A D t ad (pc, L, S0, h, nc, ns) := by
  unfold zx_br at h1
  split at h1
  · rename_i g0
    split at h1
    · rename_i g
      obtain rfl := zx_Ni h1
      intro H locs ls hP hD hS hl
      exact kk (Int.toNat_of_nonneg g0).symm (fun _ => K H locs ls hP hD hS hl) (fun z => by rw [g] at z; cases z)
    · rename_i g
      obtain rfl := zx_Ni h1
      intro H locs ls hP hD hS hl
      exact kk (Int.toNat_of_nonneg g0).symm (fun z => absurd z g) (fun _ => K H locs ls hP hD hS hl)
  · cases h1
theorem zx_s_if1 (X : zx_Cx p R s m args meth c fx vq ct A sc D t d) {cn : ClassFile.Cond} {off : Int} (hdg : decode (zx_mb t) pc = .ok (.ifCond cn off, 3)) (h1 : zx_if1 cn off pc L S h nc ns = some (.inl st))
    (K : zx_Go p l e R s m args below meth c Q fx vq ct A D t ad st) : zx_Go p l e R s m args below meth c Q fx vq ct A D t ad (pc, L, S, h, nc, ns) := by
  obtain ⟨hx, hb, -⟩ := X
  unfold zx_if1 at h1
  split at h1
  · refine zx_s_br h1 (fun ht k1 k2 => ?_) K
    cases cn
    · exact lv_if_eq hx hb hdg ht (fun z => k1 (decide_eq_true z)) (fun z => k2 (decide_eq_false z))
    · exact lv_if_ne hx hb hdg ht (fun z => k1 (decide_eq_true z)) (fun z => k2 (decide_eq_false (fun y => y z)))
    · exact lv_if_lt hx hb hdg ht (fun z => k1 (decide_eq_true z)) (fun z => k2 (decide_eq_false z))
    · exact lv_if_ge hx hb hdg ht (fun z => k1 (decide_eq_true z)) (fun z => k2 (decide_eq_false z))
    · exact lv_if_gt hx hb hdg ht (fun z => k1 (decide_eq_true z)) (fun z => k2 (decide_eq_false z))
    · exact lv_if_le hx hb hdg ht (fun z => k1 (decide_eq_true z)) (fun z => k2 (decide_eq_false z))
  · cases h1
theorem zx_s_if2 (X : zx_Cx p R s m args meth c fx vq ct A sc D t d) {cn : ClassFile.Cond} {off : Int} (hdg : decode (zx_mb t) pc = .ok (.if_icmp cn off, 3)) (h1 : zx_if2 cn off pc L S h nc ns = some (.inl st))
    (K : zx_Go p l e R s m args below meth c Q fx vq ct A D t ad st) : zx_Go p l e R s m args below meth c Q fx vq ct A D t ad (pc, L, S, h, nc, ns) := by
  obtain ⟨hx, hb, -⟩ := X
  unfold zx_if2 at h1
  split at h1
  · refine zx_s_br h1 (fun ht k1 k2 => ?_) K
    cases cn
    · exact lv_icmp_eq hx hb hdg ht (fun z => k1 (decide_eq_true z)) (fun z => k2 (decide_eq_false z))
    · exact lv_icmp_ne hx hb hdg ht (fun z => k1 (decide_eq_true z)) (fun z => k2 (decide_eq_false (fun y => y z)))
    · exact lv_icmp_lt hx hb hdg ht (fun z => k1 (decide_eq_true z)) (fun z => k2 (decide_eq_false z))
    · exact lv_icmp_ge hx hb hdg ht (fun z => k1 (decide_eq_true z)) (fun z => k2 (decide_eq_false z))
    · exact lv_icmp_gt hx hb hdg ht (fun z => k1 (decide_eq_true z)) (fun z => k2 (decide_eq_false z))
    · exact lv_icmp_le hx hb hdg ht (fun z => k1 (decide_eq_true z)) (fun z => k2 (decide_eq_false z))
  · cases h1
theorem zx_s_goto (X : zx_Cx p R s m args meth c fx vq ct A sc D t d) {off : Int} (hdg : decode (zx_mb t) pc = .ok (.goto off, 3)) (h1 : zx_J pc off L S h nc ns = some (.inl st))
    (K : zx_Go p l e R s m args below meth c Q fx vq ct A D t ad st) : zx_Go p l e R s m args below meth c Q fx vq ct A D t ad (pc, L, S, h, nc, ns) := by
  obtain ⟨hx, hb, -⟩ := X
  obtain ⟨tgt, ht, rfl⟩ := zx_Ji h1
  intro H locs ls hP hD hS hl
  exact lv_goto hx hb hdg ht (K H locs ls hP hD hS hl)
theorem zx_s_tsw (X : zx_Cx p R s m args meth c fx vq ct A sc D t d) {dflt lo hi : Int} {offs : Array Int} {len : Nat} (hdg : decode (zx_mb t) pc = .ok (.tableswitch dflt lo hi offs, len)) (h1 : zx_tsw dflt lo hi offs pc L S h nc ns = some (.inl st))
    (K : zx_Go p l e R s m args below meth c Q fx vq ct A D t ad st) : zx_Go p l e R s m args below meth c Q fx vq ct A D t ad (pc, L, S, h, nc, ns) := by
  obtain ⟨hx, hb, -⟩ := X
  unfold zx_tsw at h1
  split at h1
  · split at h1
    · rename_i g
      obtain ⟨tgt, ht, rfl⟩ := zx_Ji h1
      intro H locs ls hP hD hS hl
      exact lv_tableOut hx hb hdg g ht (K H locs ls hP hD hS hl)
    · rename_i g
      split at h1
      · rename_i off g2
        obtain ⟨tgt, ht, rfl⟩ := zx_Ji h1
        intro H locs ls hP hD hS hl
        exact lv_tableIn hx hb hdg (fun z => g (Or.inl z)) (fun z => g (Or.inr z)) g2 ht (K H locs ls hP hD hS hl)
      · cases h1
  · cases h1
theorem zx_s_lsw (X : zx_Cx p R s m args meth c fx vq ct A sc D t d) {dflt : Int} {ps : Array (Int × Int)} {len : Nat} (hdg : decode (zx_mb t) pc = .ok (.lookupswitch dflt ps, len)) (h1 : zx_lsw dflt ps pc L S h nc ns = some (.inl st))
    (K : zx_Go p l e R s m args below meth c Q fx vq ct A D t ad st) : zx_Go p l e R s m args below meth c Q fx vq ct A D t ad (pc, L, S, h, nc, ns) := by
  obtain ⟨hx, hb, -⟩ := X
  unfold zx_lsw at h1
  split at h1
  · split at h1
    · rename_i g
      obtain ⟨tgt, ht, rfl⟩ := zx_Ji h1
      intro H locs ls hP hD hS hl
      exact lv_lookup hx hb hdg g rfl ht (K H locs ls hP hD hS hl)
    · cases h1
  · cases h1
end
