/-! part 12: every step; every run: the small machine's runs are the machine's -/
section
variable {p : Program} {l : Launch} {e : Env} {R : Room} {s : State} {m : MethodId} {args : Array Value} {below : List Frame} {meth : Method} {c : Code} {Q : State → Prop}
variable {fx : Nat → Nat → Nat} {vq : Value} {ct : Nat → ClassId} {ad : Nat → Nat} {A : Nat → Prop} {sc : zx_Sc} {D : va_G} {t : zx_MT} {d : Nat}
variable {pc nc ns : Nat} {L : List (Option zx_V)} {S : List zx_V} {h : List zx_C} {st : zx_S}
variable {run : Nat → List zx_V → List zx_C → Option zx_R}
theorem zx_lSok : ∀ ix i, zx_lk zx_lS 4 ix = some i → ∃ q : String × Nat × Nat, zx_st[i]? = some q ∧ q.2.1 = ix := by
  intro ix i h1
  obtain ⟨r, h2, h3⟩ := zx_lk_mem h1
  have h4 : (zx_lS[4]?).all (fun r => r.all (fun e => match zx_st[e.2]? with | some q => decide (q.2.1 = e.1) | none => false)) = true := by decide +kernel
  rw [h2] at h4
  have h5 := List.all_eq_true.mp (by simpa using h4 : (r.all (fun e => match zx_st[e.2]? with | some q => decide (q.2.1 = e.1) | none => false)) = true) _ h3
  simp only at h5
  split at h5
  · rename_i q e5
    exact ⟨q, e5, by simpa using h5⟩
  · cases h5
theorem zx_nc_ret {ro : Option zx_R} {r : List zx_V} (h1 : zx_ret pc L r h nc ns ro = some (.inl st)) : st.2.1.length = L.length ∧ nc ≤ st.2.2.2.2.1 ∧ ns ≤ st.2.2.2.2.2 := by
  obtain ⟨q, -, -, rfl⟩ := zx_retI h1
  exact ⟨rfl, Nat.le_add_right _ _, Nat.le_add_right _ _⟩
theorem zx_nc_sm (h1 : zx_sm L h nc ns st) : st.2.1.length = L.length ∧ nc ≤ st.2.2.2.2.1 ∧ ns ≤ st.2.2.2.2.2 := ⟨h1.1, by rw [h1.2.2.1]; exact Nat.le_refl _, by rw [h1.2.2.2]; exact Nat.le_refl _⟩
theorem zx_nc_N {pc' : Nat} {L' : List (Option zx_V)} {S' : List zx_V} {h' : List zx_C} {nc' ns' : Nat} (h1 : zx_N pc' L' S' h' nc' ns' = some (.inl st)) (a : L'.length = L.length) (b : nc ≤ nc') (c : ns ≤ ns') : st.2.1.length = L.length ∧ nc ≤ st.2.2.2.2.1 ∧ ns ≤ st.2.2.2.2.2 := by
  obtain rfl := zx_Ni h1
  exact ⟨a, b, c⟩
theorem zx_nc_new {o ix : Nat} (h1 : zx_new o ix pc L S h nc ns = some (.inl st)) : st.2.1.length = L.length ∧ nc ≤ st.2.2.2.2.1 ∧ ns ≤ st.2.2.2.2.2 := by
  unfold zx_new at h1
  repeat' split at h1
  all_goals first | (cases h1; done) | exact zx_nc_N h1 rfl (by omega) (by omega)
theorem zx_nc_na {ty : ArrayType} (h1 : zx_na ty pc L S h nc ns = some (.inl st)) : st.2.1.length = L.length ∧ nc ≤ st.2.2.2.2.1 ∧ ns ≤ st.2.2.2.2.2 := by
  unfold zx_na at h1
  repeat' split at h1
  all_goals first | (cases h1; done) | exact zx_nc_N h1 rfl (by omega) (by omega)
theorem zx_nc_an {o ix : Nat} (h1 : zx_an o ix pc L S h nc ns = some (.inl st)) : st.2.1.length = L.length ∧ nc ≤ st.2.2.2.2.1 ∧ ns ≤ st.2.2.2.2.2 := by
  unfold zx_an at h1
  repeat' split at h1
  all_goals first | (cases h1; done) | exact zx_nc_N h1 rfl (by omega) (by omega)
theorem zx_nc_iv {o ix : Nat} (h1 : zx_iv run o ix pc L S h nc ns = some (.inl st)) : st.2.1.length = L.length ∧ nc ≤ st.2.2.2.2.1 ∧ ns ≤ st.2.2.2.2.2 := by
  unfold zx_iv at h1
  repeat' split at h1
  all_goals first | (cases h1; done) | exact zx_nc_ret h1
theorem zx_nc_is {o ix : Nat} (h1 : zx_is run o ix pc L S h nc ns = some (.inl st)) : st.2.1.length = L.length ∧ nc ≤ st.2.2.2.2.1 ∧ ns ≤ st.2.2.2.2.2 := by
  unfold zx_is at h1
  repeat' split at h1
  all_goals first | (cases h1; done) | exact zx_nc_ret h1 | exact zx_nc_sm (zx_k_ac h1) | exact zx_nc_N h1 rfl (Nat.le_refl _) (Nat.le_refl _)
theorem zx_nc_ii {o ix : Nat} (h1 : zx_ii run o ix pc L S h nc ns = some (.inl st)) : st.2.1.length = L.length ∧ nc ≤ st.2.2.2.2.1 ∧ ns ≤ st.2.2.2.2.2 := by
  unfold zx_ii at h1
  repeat' split at h1
  all_goals first | (cases h1; done) | exact zx_nc_ret h1 | exact zx_nc_N h1 rfl (Nat.le_refl _) (Nat.le_refl _)
theorem zx_noR {mr : Option FieldType} (h1 : zx_ir mr S h nc ns = some (.inl st) ∨ zx_lr mr S h nc ns = some (.inl st) ∨ zx_ar mr S h nc ns = some (.inl st) ∨ zx_vr mr S h nc ns = some (.inl st)) : False := by
  rcases h1 with h1 | h1 | h1 | h1
  · unfold zx_ir at h1
    repeat' split at h1
    all_goals cases h1
  · unfold zx_lr at h1
    repeat' split at h1
    all_goals cases h1
  · unfold zx_ar at h1
    repeat' split at h1
    all_goals cases h1
  · unfold zx_vr at h1
    repeat' split at h1
    all_goals cases h1
theorem zx_nc_ins {ins : Instr} (h1 : zx_ins sc run t ins pc L S h nc ns = some (.inl st)) : st.2.1.length = L.length ∧ nc ≤ st.2.2.2.2.1 ∧ ns ≤ st.2.2.2.2.2 := by
  unfold zx_ins at h1
  split at h1
  all_goals first | (cases h1; done) | exact zx_nc_N h1 rfl (Nat.le_refl _) (Nat.le_refl _) | exact zx_nc_sm (zx_k_lc h1) | exact zx_nc_sm (zx_k_lc2 h1) | exact zx_nc_sm (zx_k_ld h1) | exact zx_nc_sm (zx_k_sto h1) | exact zx_nc_sm (zx_k_stl h1) | exact zx_nc_sm (zx_k_iinc h1) | exact zx_nc_sm (zx_k_bin h1) | exact zx_nc_sm (zx_k_un h1) | exact zx_nc_sm (zx_k_lng h1) | exact zx_nc_sm (zx_k_stk h1) | exact zx_nc_sm (zx_k_if1 h1) | exact zx_nc_sm (zx_k_if2 h1) | exact zx_nc_sm (zx_k_J h1) | exact zx_nc_sm (zx_k_tsw h1) | exact zx_nc_sm (zx_k_lsw h1) | exact zx_nc_sm (zx_k_gf h1) | exact zx_nc_sm (zx_k_pf h1) | exact zx_nc_sm (zx_k_gs h1) | exact zx_nc_sm (zx_k_al h1) | exact zx_nc_sm (zx_k_ial h1) | exact zx_nc_sm (zx_k_ias h1) | exact zx_nc_sm (zx_k_lal h1) | exact zx_nc_sm (zx_k_las h1) | exact zx_nc_sm (zx_k_bal h1) | exact zx_nc_sm (zx_k_aal h1) | exact zx_nc_sm (zx_k_aas h1) | exact zx_nc_new h1 | exact zx_nc_na h1 | exact zx_nc_an h1 | exact zx_nc_iv h1 | exact zx_nc_is h1 | exact zx_nc_ii h1 | exact (zx_noR (Or.inl h1)).elim | exact (zx_noR (Or.inr (Or.inl h1))).elim | exact (zx_noR (Or.inr (Or.inr (Or.inl h1)))).elim | exact (zx_noR (Or.inr (Or.inr (Or.inr h1)))).elim
theorem zx_s_ins (X : zx_Cx p R s m args meth c fx vq ct A sc D t d) (hM : zx_Hm l fx vq ct A sc D d run) (hLn : L.length ≤ zx_mn t) {ins : Instr} {len : Nat} (hdg : decode (zx_mb t) pc = .ok (ins, len)) (hlen : zx_lok ins len = true) (h1 : zx_ins sc run t ins pc L S h nc ns = some (.inl st)) (hR : st.2.2.2.2.1 ≤ R.cells ∧ st.2.2.2.2.2 ≤ R.slots)
    (K : ∀ ad', zx_ext ad h ad' st.2.2.2.1 → zx_Go p l e R s m args below meth c Q fx vq ct A D t ad' st) : zx_Go p l e R s m args below meth c Q fx vq ct A D t ad (pc, L, S, h, nc, ns) := by
  obtain ⟨hx, hb, -⟩ := id X
  have sm : zx_sm L h nc ns st → zx_Go p l e R s m args below meth c Q fx vq ct A D t ad st := fun q => K ad (zx_ext_sm q.2.1)
  cases ins
  case iconst n =>
    have e9 : len = 1 := by simpa [zx_lok, zx_len] using hlen
    subst e9
    obtain rfl := zx_Ni h1
    intro H locs ls hP hD hS hl
    exact lv_iconst hx hb hdg rfl (K ad (zx_ext_sm rfl) H locs ls hP hD hS hl)
  case bipush n =>
    have e9 : len = 2 := by simpa [zx_lok, zx_len] using hlen
    subst e9
    obtain rfl := zx_Ni h1
    intro H locs ls hP hD hS hl
    exact lv_bipush hx hb hdg rfl (K ad (zx_ext_sm rfl) H locs ls hP hD hS hl)
  case sipush n =>
    have e9 : len = 3 := by simpa [zx_lok, zx_len] using hlen
    subst e9
    obtain rfl := zx_Ni h1
    intro H locs ls hP hD hS hl
    exact lv_sipush hx hb hdg rfl (K ad (zx_ext_sm rfl) H locs ls hP hD hS hl)
  case lconst n =>
    have e9 : len = 1 := by simpa [zx_lok, zx_len] using hlen
    subst e9
    obtain rfl := zx_Ni h1
    intro H locs ls hP hD hS hl
    exact lv_lconst hx hb hdg rfl (K ad (zx_ext_sm rfl) H locs ls hP hD hS hl)
  case iload i =>
    have e9 : len = 2 := by simpa [zx_lok, zx_len] using hlen
    subst e9
    exact zx_s_load X h1 (fun _ g k => lv_iload hx hb hdg g k) (fun q => by cases q) (fun q => by cases q) (fun q => by cases q) (by decide) (sm (zx_k_ld h1))
  case iload_n i =>
    have e9 : len = 1 := by simpa [zx_lok, zx_len] using hlen
    subst e9
    exact zx_s_load X h1 (fun _ g k => lv_iload_n hx hb hdg rfl g k) (fun q => by cases q) (fun q => by cases q) (fun q => by cases q) (by decide) (sm (zx_k_ld h1))
  case lload i =>
    have e9 : len = 2 := by simpa [zx_lok, zx_len] using hlen
    subst e9
    exact zx_s_load X h1 (fun q => by cases q) (fun _ g k => lv_lload hx hb hdg g k) (fun q => by cases q) (fun q => by cases q) (by decide) (sm (zx_k_ld h1))
  case lload_n i =>
    have e9 : len = 1 := by simpa [zx_lok, zx_len] using hlen
    subst e9
    exact zx_s_load X h1 (fun q => by cases q) (fun _ g k => lv_lload_n hx hb hdg rfl g k) (fun q => by cases q) (fun q => by cases q) (by decide) (sm (zx_k_ld h1))
  case aload i =>
    have e9 : len = 2 := by simpa [zx_lok, zx_len] using hlen
    subst e9
    exact zx_s_load X h1 (fun q => by cases q) (fun q => by cases q) (fun _ g k => lv_aload hx hb hdg g k) (fun _ g k => lv_aloadN hx hb hdg g k) (by decide) (sm (zx_k_ld h1))
  case aload_n i =>
    have e9 : len = 1 := by simpa [zx_lok, zx_len] using hlen
    subst e9
    exact zx_s_load X h1 (fun q => by cases q) (fun q => by cases q) (fun _ g k => lv_aload_n hx hb hdg rfl g k) (fun _ g k => lv_aload_nN hx hb hdg rfl g k) (by decide) (sm (zx_k_ld h1))
  case istore i =>
    have e9 : len = 2 := by simpa [zx_lok, zx_len] using hlen
    subst e9
    exact zx_s_store X h1 hLn (fun _ g a k => lv_istore hx hb hdg g a rfl k) (fun q => by cases q) (fun q => by cases q) (by decide) (sm (zx_k_sto h1))
  case istore_n i =>
    have e9 : len = 1 := by simpa [zx_lok, zx_len] using hlen
    subst e9
    exact zx_s_store X h1 hLn (fun _ g a k => lv_istore_n hx hb hdg rfl g a rfl k) (fun q => by cases q) (fun q => by cases q) (by decide) (sm (zx_k_sto h1))
  case astore i =>
    have e9 : len = 2 := by simpa [zx_lok, zx_len] using hlen
    subst e9
    exact zx_s_store X h1 hLn (fun q => by cases q) (fun _ g a k => lv_astore hx hb hdg g a rfl k) (fun _ g a k => lv_astoreN hx hb hdg g a rfl k) (by decide) (sm (zx_k_sto h1))
  case astore_n i =>
    have e9 : len = 1 := by simpa [zx_lok, zx_len] using hlen
    subst e9
    exact zx_s_store X h1 hLn (fun q => by cases q) (fun _ g a k => lv_astore_n hx hb hdg rfl g a rfl k) (fun _ g a k => lv_astore_nN hx hb hdg rfl g a rfl k) (by decide) (sm (zx_k_sto h1))
  case lstore i =>
    have e9 : len = 2 := by simpa [zx_lok, zx_len] using hlen
    subst e9
    exact zx_s_stl X h1 hLn (fun g a k => lv_lstore hx hb hdg g a rfl k) (sm (zx_k_stl h1))
  case lstore_n i =>
    have e9 : len = 1 := by simpa [zx_lok, zx_len] using hlen
    subst e9
    exact zx_s_stl X h1 hLn (fun g a k => lv_lstore_n hx hb hdg rfl g a rfl k) (sm (zx_k_stl h1))
  case iinc i z =>
    have e9 : len = 3 := by simpa [zx_lok, zx_len] using hlen
    subst e9
    exact zx_s_iinc X hdg h1 hLn (sm (zx_k_iinc h1))
  case iadd =>
    have e9 : len = 1 := by simpa [zx_lok, zx_len] using hlen
    subst e9
    have h2 : zx_bin .iadd pc L S h nc ns = some (.inl st) := h1
    exact zx_s_bin X hdg h2 (sm (zx_k_bin h2))
  case isub =>
    have e9 : len = 1 := by simpa [zx_lok, zx_len] using hlen
    subst e9
    have h2 : zx_bin .isub pc L S h nc ns = some (.inl st) := h1
    exact zx_s_bin X hdg h2 (sm (zx_k_bin h2))
  case imul =>
    have e9 : len = 1 := by simpa [zx_lok, zx_len] using hlen
    subst e9
    have h2 : zx_bin .imul pc L S h nc ns = some (.inl st) := h1
    exact zx_s_bin X hdg h2 (sm (zx_k_bin h2))
  case iand =>
    have e9 : len = 1 := by simpa [zx_lok, zx_len] using hlen
    subst e9
    have h2 : zx_bin .iand pc L S h nc ns = some (.inl st) := h1
    exact zx_s_bin X hdg h2 (sm (zx_k_bin h2))
  case ior =>
    have e9 : len = 1 := by simpa [zx_lok, zx_len] using hlen
    subst e9
    have h2 : zx_bin .ior pc L S h nc ns = some (.inl st) := h1
    exact zx_s_bin X hdg h2 (sm (zx_k_bin h2))
  case ixor =>
    have e9 : len = 1 := by simpa [zx_lok, zx_len] using hlen
    subst e9
    have h2 : zx_bin .ixor pc L S h nc ns = some (.inl st) := h1
    exact zx_s_bin X hdg h2 (sm (zx_k_bin h2))
  case ishl =>
    have e9 : len = 1 := by simpa [zx_lok, zx_len] using hlen
    subst e9
    have h2 : zx_bin .ishl pc L S h nc ns = some (.inl st) := h1
    exact zx_s_bin X hdg h2 (sm (zx_k_bin h2))
  case ishr =>
    have e9 : len = 1 := by simpa [zx_lok, zx_len] using hlen
    subst e9
    have h2 : zx_bin .ishr pc L S h nc ns = some (.inl st) := h1
    exact zx_s_bin X hdg h2 (sm (zx_k_bin h2))
  case iushr =>
    have e9 : len = 1 := by simpa [zx_lok, zx_len] using hlen
    subst e9
    have h2 : zx_bin .iushr pc L S h nc ns = some (.inl st) := h1
    exact zx_s_bin X hdg h2 (sm (zx_k_bin h2))
  case idiv =>
    have e9 : len = 1 := by simpa [zx_lok, zx_len] using hlen
    subst e9
    have h2 : zx_bin .idiv pc L S h nc ns = some (.inl st) := h1
    exact zx_s_bin X hdg h2 (sm (zx_k_bin h2))
  case irem =>
    have e9 : len = 1 := by simpa [zx_lok, zx_len] using hlen
    subst e9
    have h2 : zx_bin .irem pc L S h nc ns = some (.inl st) := h1
    exact zx_s_bin X hdg h2 (sm (zx_k_bin h2))
  case ineg =>
    have e9 : len = 1 := by simpa [zx_lok, zx_len] using hlen
    subst e9
    have h2 : zx_un .ineg pc L S h nc ns = some (.inl st) := h1
    exact zx_s_un X hdg h2 (sm (zx_k_un h2))
  case i2b =>
    have e9 : len = 1 := by simpa [zx_lok, zx_len] using hlen
    subst e9
    have h2 : zx_un .i2b pc L S h nc ns = some (.inl st) := h1
    exact zx_s_un X hdg h2 (sm (zx_k_un h2))
  case i2s =>
    have e9 : len = 1 := by simpa [zx_lok, zx_len] using hlen
    subst e9
    have h2 : zx_un .i2s pc L S h nc ns = some (.inl st) := h1
    exact zx_s_un X hdg h2 (sm (zx_k_un h2))
  case i2c =>
    have e9 : len = 1 := by simpa [zx_lok, zx_len] using hlen
    subst e9
    have h2 : zx_un .i2c pc L S h nc ns = some (.inl st) := h1
    exact zx_s_un X hdg h2 (sm (zx_k_un h2))
  case i2l =>
    have e9 : len = 1 := by simpa [zx_lok, zx_len] using hlen
    subst e9
    have h2 : zx_lng .i2l pc L S h nc ns = some (.inl st) := h1
    exact zx_s_lng X hdg h2 (sm (zx_k_lng h2))
  case l2i =>
    have e9 : len = 1 := by simpa [zx_lok, zx_len] using hlen
    subst e9
    have h2 : zx_lng .l2i pc L S h nc ns = some (.inl st) := h1
    exact zx_s_lng X hdg h2 (sm (zx_k_lng h2))
  case land =>
    have e9 : len = 1 := by simpa [zx_lok, zx_len] using hlen
    subst e9
    have h2 : zx_lng .land pc L S h nc ns = some (.inl st) := h1
    exact zx_s_lng X hdg h2 (sm (zx_k_lng h2))
  case lor =>
    have e9 : len = 1 := by simpa [zx_lok, zx_len] using hlen
    subst e9
    have h2 : zx_lng .lor pc L S h nc ns = some (.inl st) := h1
    exact zx_s_lng X hdg h2 (sm (zx_k_lng h2))
  case lshl =>
    have e9 : len = 1 := by simpa [zx_lok, zx_len] using hlen
    subst e9
    have h2 : zx_lng .lshl pc L S h nc ns = some (.inl st) := h1
    exact zx_s_lng X hdg h2 (sm (zx_k_lng h2))
  case dup =>
    have e9 : len = 1 := by simpa [zx_lok, zx_len] using hlen
    subst e9
    have h2 : zx_stk .dup pc L S h nc ns = some (.inl st) := h1
    exact zx_s_stk X hdg h2 (sm (zx_k_stk h2))
  case pop =>
    have e9 : len = 1 := by simpa [zx_lok, zx_len] using hlen
    subst e9
    have h2 : zx_stk .pop pc L S h nc ns = some (.inl st) := h1
    exact zx_s_stk X hdg h2 (sm (zx_k_stk h2))
  case dup_x1 =>
    have e9 : len = 1 := by simpa [zx_lok, zx_len] using hlen
    subst e9
    have h2 : zx_stk .dup_x1 pc L S h nc ns = some (.inl st) := h1
    exact zx_s_stk X hdg h2 (sm (zx_k_stk h2))
  case dup2 =>
    have e9 : len = 1 := by simpa [zx_lok, zx_len] using hlen
    subst e9
    have h2 : zx_stk .dup2 pc L S h nc ns = some (.inl st) := h1
    exact zx_s_stk X hdg h2 (sm (zx_k_stk h2))
  case pop2 =>
    have e9 : len = 1 := by simpa [zx_lok, zx_len] using hlen
    subst e9
    have h2 : zx_stk .pop2 pc L S h nc ns = some (.inl st) := h1
    exact zx_s_stk X hdg h2 (sm (zx_k_stk h2))
  case ifCond cn off =>
    have e9 : len = 3 := by simpa [zx_lok, zx_len] using hlen
    subst e9
    exact zx_s_if1 X hdg h1 (sm (zx_k_if1 h1))
  case if_icmp cn off =>
    have e9 : len = 3 := by simpa [zx_lok, zx_len] using hlen
    subst e9
    exact zx_s_if2 X hdg h1 (sm (zx_k_if2 h1))
  case goto off =>
    have e9 : len = 3 := by simpa [zx_lok, zx_len] using hlen
    subst e9
    exact zx_s_goto X hdg h1 (sm (zx_k_J h1))
  case tableswitch a b c2 d2 => exact zx_s_tsw X hdg h1 (sm (zx_k_tsw h1))
  case lookupswitch a b => exact zx_s_lsw X hdg h1 (sm (zx_k_lsw h1))
  case getfield ix =>
    have e9 : len = 3 := by simpa [zx_lok, zx_len] using hlen
    subst e9
    exact zx_s_gf X hdg h1 (sm (zx_k_gf h1))
  case putfield ix =>
    have e9 : len = 3 := by simpa [zx_lok, zx_len] using hlen
    subst e9
    exact zx_s_pf X hdg h1 (sm (zx_k_pf h1))
  case getstatic ix =>
    have e9 : len = 3 := by simpa [zx_lok, zx_len] using hlen
    subst e9
    exact zx_s_gs X hdg h1 (sm (zx_k_gs h1))
  case arraylength =>
    have e9 : len = 1 := by simpa [zx_lok, zx_len] using hlen
    subst e9
    exact zx_s_al X hdg h1 (sm (zx_k_al h1))
  case iaload =>
    have e9 : len = 1 := by simpa [zx_lok, zx_len] using hlen
    subst e9
    exact zx_s_ial X hdg h1 (sm (zx_k_ial h1))
  case iastore =>
    have e9 : len = 1 := by simpa [zx_lok, zx_len] using hlen
    subst e9
    exact zx_s_ias X hdg h1 (sm (zx_k_ias h1))
  case laload =>
    have e9 : len = 1 := by simpa [zx_lok, zx_len] using hlen
    subst e9
    exact zx_s_lal X hdg h1 (sm (zx_k_lal h1))
  case lastore =>
    have e9 : len = 1 := by simpa [zx_lok, zx_len] using hlen
    subst e9
    exact zx_s_las X hdg h1 (sm (zx_k_las h1))
  case baload =>
    have e9 : len = 1 := by simpa [zx_lok, zx_len] using hlen
    subst e9
    exact zx_s_bal X hdg h1 (sm (zx_k_bal h1))
  case aaload =>
    have e9 : len = 1 := by simpa [zx_lok, zx_len] using hlen
    subst e9
    exact zx_s_aal X hdg h1 (sm (zx_k_aal h1))
  case aastore =>
    have e9 : len = 1 := by simpa [zx_lok, zx_len] using hlen
    subst e9
    exact zx_s_aas X hdg h1 (sm (zx_k_aas h1))
  case ldc_w ix =>
    have e9 : len = 3 := by simpa [zx_lok, zx_len] using hlen
    subst e9
    exact zx_s_lcw X hdg h1 (sm (zx_k_lc h1))
  case ldc2_w ix =>
    have e9 : len = 3 := by simpa [zx_lok, zx_len] using hlen
    subst e9
    exact zx_s_lc2 X hdg h1 (sm (zx_k_lc2 h1))
  case ldc ix =>
    have e9 : len = 2 := by simpa [zx_lok, zx_len] using hlen
    subst e9
    exact zx_s_lc X hdg h1 (zx_lSok ix) (sm (zx_k_lc h1))
  case new ix =>
    have e9 : len = 3 := by simpa [zx_lok, zx_len] using hlen
    subst e9
    exact zx_s_new X hdg h1 hR K
  case newarray ty =>
    have e9 : len = 2 := by simpa [zx_lok, zx_len] using hlen
    subst e9
    exact zx_s_na X hdg h1 hR K
  case anewarray ix =>
    have e9 : len = 3 := by simpa [zx_lok, zx_len] using hlen
    subst e9
    exact zx_s_an X hdg h1 hR K
  case invokevirtual ix =>
    have e9 : len = 3 := by simpa [zx_lok, zx_len] using hlen
    subst e9
    exact zx_s_iv X hM hdg h1 hR K
  case invokestatic ix =>
    have e9 : len = 3 := by simpa [zx_lok, zx_len] using hlen
    subst e9
    exact zx_s_is X hM hdg h1 hR K
  case invokespecial ix =>
    have e9 : len = 3 := by simpa [zx_lok, zx_len] using hlen
    subst e9
    exact zx_s_ii X hM hdg h1 hR K
  case ireturn => exact (zx_noR (Or.inl h1)).elim
  case lreturn => exact (zx_noR (Or.inr (Or.inl h1))).elim
  case areturn => exact (zx_noR (Or.inr (Or.inr (Or.inl h1)))).elim
  case return_ => exact (zx_noR (Or.inr (Or.inr (Or.inr h1)))).elim
  all_goals (replace h1 : (none : zx_T) = some (.inl st) := h1; cases h1)
/-- one step -/
theorem zx_s_stp (X : zx_Cx p R s m args meth c fx vq ct A sc D t d) (hM : zx_Hm l fx vq ct A sc D d run) {st0 st1 : zx_S} (hLn : st0.2.1.length ≤ zx_mn t) (h1 : zx_stp sc run t st0 = some (.inl st1)) (hR : st1.2.2.2.2.1 ≤ R.cells ∧ st1.2.2.2.2.2 ≤ R.slots)
    (K : ∀ ad', zx_ext ad st0.2.2.2.1 ad' st1.2.2.2.1 → zx_Go p l e R s m args below meth c Q fx vq ct A D t ad' st1) : zx_Go p l e R s m args below meth c Q fx vq ct A D t ad st0 := by
  unfold zx_stp at h1
  split at h1
  · rename_i ins len hdg
    split at h1
    · rename_i hlen
      exact zx_s_ins X hM hLn hdg hlen h1 hR K
    · cases h1
  · cases h1
theorem zx_nc_stp {st0 st1 : zx_S} (h1 : zx_stp sc run t st0 = some (.inl st1)) : st1.2.1.length = st0.2.1.length ∧ st0.2.2.2.2.1 ≤ st1.2.2.2.2.1 ∧ st0.2.2.2.2.2 ≤ st1.2.2.2.2.2 := by
  unfold zx_stp at h1
  split at h1
  · split at h1
    · exact zx_nc_ins h1
    · cases h1
  · cases h1
end
