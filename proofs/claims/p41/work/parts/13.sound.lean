section
/-! part 13: ends; every run of the small machine is a contract of the machine -/
section
variable {p : Program} {l : Launch} {e : Env} {R : Room} {s : State} {m : MethodId} {args : Array Value} {below : List Frame} {meth : Method} {c : Code} {Q : State → Prop}
variable {fx : Nat → Nat → Nat} {vq : Value} {ct : Nat → ClassId} {ad : Nat → Nat} {A : Nat → Prop} {sc : zx_Sc} {D : va_G} {t : zx_MT} {d : Nat}
variable {pc nc ns : Nat} {L : List (Option zx_V)} {S : List zx_V} {h : List zx_C} {st : zx_S}
variable {run : Nat → List zx_V → List zx_C → Option zx_R} {rr : zx_R}
theorem zx_i_N {pc : Nat} {L : List (Option zx_V)} {S : List zx_V} {h : List zx_C} {nc ns : Nat} (h1 : zx_N pc L S h nc ns = some (.inr rr)) : False := by
  unfold zx_N at h1
  cases h1
theorem zx_i_ld {ty i n : Nat} (h1 : zx_ld ty i n pc L S h nc ns = some (.inr rr)) : False := by
  unfold zx_ld at h1
  repeat' split at h1
  all_goals first | (cases h1; done) | exact zx_i_N h1
theorem zx_i_sto {ty i n : Nat} (h1 : zx_sto ty i n pc L S h nc ns = some (.inr rr)) : False := by
  unfold zx_sto at h1
  repeat' split at h1
  all_goals first | (cases h1; done) | exact zx_i_N h1
theorem zx_i_stl {i n : Nat} (h1 : zx_stl i n pc L S h nc ns = some (.inr rr)) : False := by
  unfold zx_stl at h1
  repeat' split at h1
  all_goals first | (cases h1; done) | exact zx_i_N h1
theorem zx_i_iinc {i : Nat} {z : Int} (h1 : zx_iinc i z pc L S h nc ns = some (.inr rr)) : False := by
  unfold zx_iinc at h1
  repeat' split at h1
  all_goals first | (cases h1; done) | exact zx_i_N h1
theorem zx_i_bin {ins : Instr} (h1 : zx_bin ins pc L S h nc ns = some (.inr rr)) : False := by
  unfold zx_bin at h1
  repeat' split at h1
  all_goals first | (cases h1; done) | exact zx_i_N h1
theorem zx_i_un {ins : Instr} (h1 : zx_un ins pc L S h nc ns = some (.inr rr)) : False := by
  unfold zx_un at h1
  repeat' split at h1
  all_goals first | (cases h1; done) | exact zx_i_N h1
theorem zx_i_lng {ins : Instr} (h1 : zx_lng ins pc L S h nc ns = some (.inr rr)) : False := by
  unfold zx_lng at h1
  repeat' split at h1
  all_goals first | (cases h1; done) | exact zx_i_N h1
theorem zx_i_stk {ins : Instr} (h1 : zx_stk ins pc L S h nc ns = some (.inr rr)) : False := by
  unfold zx_stk at h1
  repeat' split at h1
  all_goals first | (cases h1; done) | exact zx_i_N h1
theorem zx_i_J {off : Int} (h1 : zx_J pc off L S h nc ns = some (.inr rr)) : False := by
  unfold zx_J at h1
  repeat' split at h1
  all_goals first | (cases h1; done) | exact zx_i_N h1
theorem zx_i_br {b : Bool} {off : Int} (h1 : zx_br b off pc L S h nc ns = some (.inr rr)) : False := by
  unfold zx_br at h1
  repeat' split at h1
  all_goals first | (cases h1; done) | exact zx_i_N h1
theorem zx_i_if1 {cn : ClassFile.Cond} {off : Int} (h1 : zx_if1 cn off pc L S h nc ns = some (.inr rr)) : False := by
  unfold zx_if1 at h1
  repeat' split at h1
  all_goals first | (cases h1; done) | exact zx_i_N h1 | exact zx_i_br h1
theorem zx_i_if2 {cn : ClassFile.Cond} {off : Int} (h1 : zx_if2 cn off pc L S h nc ns = some (.inr rr)) : False := by
  unfold zx_if2 at h1
  repeat' split at h1
  all_goals first | (cases h1; done) | exact zx_i_N h1 | exact zx_i_br h1
theorem zx_i_tsw {dflt lo hi : Int} {offs : Array Int} (h1 : zx_tsw dflt lo hi offs pc L S h nc ns = some (.inr rr)) : False := by
  unfold zx_tsw at h1
  repeat' split at h1
  all_goals first | (cases h1; done) | exact zx_i_N h1 | exact zx_i_J h1
theorem zx_i_lsw {dflt : Int} {ps : Array (Int × Int)} (h1 : zx_lsw dflt ps pc L S h nc ns = some (.inr rr)) : False := by
  unfold zx_lsw at h1
  repeat' split at h1
  all_goals first | (cases h1; done) | exact zx_i_N h1 | exact zx_i_J h1
theorem zx_i_gf {o ix : Nat} (h1 : zx_gf o ix pc L S h nc ns = some (.inr rr)) : False := by
  unfold zx_gf at h1
  repeat' split at h1
  all_goals first | (cases h1; done) | exact zx_i_N h1
theorem zx_i_pf {o kd ix : Nat} (h1 : zx_pf o kd ix pc L S h nc ns = some (.inr rr)) : False := by
  unfold zx_pf at h1
  repeat' split at h1
  all_goals first | (cases h1; done) | exact zx_i_N h1
theorem zx_i_gs {o ix : Nat} (h1 : zx_gs o ix pc L S h nc ns = some (.inr rr)) : False := by
  unfold zx_gs at h1
  repeat' split at h1
  all_goals first | (cases h1; done) | exact zx_i_N h1
theorem zx_i_al  (h1 : zx_al sc pc L S h nc ns = some (.inr rr)) : False := by
  unfold zx_al at h1
  repeat' split at h1
  all_goals first | (cases h1; done) | exact zx_i_N h1
theorem zx_i_ial  (h1 : zx_ial sc pc L S h nc ns = some (.inr rr)) : False := by
  unfold zx_ial at h1
  repeat' split at h1
  all_goals first | (cases h1; done) | exact zx_i_N h1
theorem zx_i_ias  (h1 : zx_ias pc L S h nc ns = some (.inr rr)) : False := by
  unfold zx_ias at h1
  repeat' split at h1
  all_goals first | (cases h1; done) | exact zx_i_N h1
theorem zx_i_lal  (h1 : zx_lal pc L S h nc ns = some (.inr rr)) : False := by
  unfold zx_lal at h1
  repeat' split at h1
  all_goals first | (cases h1; done) | exact zx_i_N h1
theorem zx_i_las  (h1 : zx_las pc L S h nc ns = some (.inr rr)) : False := by
  unfold zx_las at h1
  repeat' split at h1
  all_goals first | (cases h1; done) | exact zx_i_N h1
theorem zx_i_bal  (h1 : zx_bal pc L S h nc ns = some (.inr rr)) : False := by
  unfold zx_bal at h1
  repeat' split at h1
  all_goals first | (cases h1; done) | exact zx_i_N h1
theorem zx_i_aal  (h1 : zx_aal pc L S h nc ns = some (.inr rr)) : False := by
  unfold zx_aal at h1
  repeat' split at h1
  all_goals first | (cases h1; done) | exact zx_i_N h1
theorem zx_i_aas  (h1 : zx_aas pc L S h nc ns = some (.inr rr)) : False := by
  unfold zx_aas at h1
  repeat' split at h1
  all_goals first | (cases h1; done) | exact zx_i_N h1
theorem zx_i_lc {o ix n : Nat} (h1 : zx_lc o ix n pc L S h nc ns = some (.inr rr)) : False := by
  unfold zx_lc at h1
  repeat' split at h1
  all_goals first | (cases h1; done) | exact zx_i_N h1
theorem zx_i_lc2 {o ix : Nat} (h1 : zx_lc2 o ix pc L S h nc ns = some (.inr rr)) : False := by
  unfold zx_lc2 at h1
  repeat' split at h1
  all_goals first | (cases h1; done) | exact zx_i_N h1
theorem zx_i_ac  (h1 : zx_ac pc L S h nc ns = some (.inr rr)) : False := by
  unfold zx_ac at h1
  repeat' split at h1
  all_goals first | (cases h1; done) | exact zx_i_N h1
theorem zx_i_new {o ix : Nat} (h1 : zx_new o ix pc L S h nc ns = some (.inr rr)) : False := by
  unfold zx_new at h1
  repeat' split at h1
  all_goals first | (cases h1; done) | exact zx_i_N h1
theorem zx_i_na {ty : ArrayType} (h1 : zx_na ty pc L S h nc ns = some (.inr rr)) : False := by
  unfold zx_na at h1
  repeat' split at h1
  all_goals first | (cases h1; done) | exact zx_i_N h1
theorem zx_i_an {o ix : Nat} (h1 : zx_an o ix pc L S h nc ns = some (.inr rr)) : False := by
  unfold zx_an at h1
  repeat' split at h1
  all_goals first | (cases h1; done) | exact zx_i_N h1
theorem zx_i_ret {r : List zx_V} {ro : Option zx_R} (h1 : zx_ret pc L r h nc ns ro = some (.inr rr)) : False := by
  unfold zx_ret at h1
  repeat' split at h1
  all_goals first | (cases h1; done) | exact zx_i_N h1
theorem zx_i_iv {o ix : Nat} (h1 : zx_iv run o ix pc L S h nc ns = some (.inr rr)) : False := by
  unfold zx_iv at h1
  repeat' split at h1
  all_goals first | (cases h1; done) | exact zx_i_N h1 | exact zx_i_ret h1
theorem zx_i_is {o ix : Nat} (h1 : zx_is run o ix pc L S h nc ns = some (.inr rr)) : False := by
  unfold zx_is at h1
  repeat' split at h1
  all_goals first | (cases h1; done) | exact zx_i_N h1 | exact zx_i_ret h1 | exact zx_i_ac h1
theorem zx_i_ii {o ix : Nat} (h1 : zx_ii run o ix pc L S h nc ns = some (.inr rr)) : False := by
  unfold zx_ii at h1
  repeat' split at h1
  all_goals first | (cases h1; done) | exact zx_i_N h1 | exact zx_i_ret h1
theorem zx_e_ins {ins : Instr} (h1 : zx_ins sc run t ins pc L S h nc ns = some (.inr rr)) : (ins = .ireturn ∧ zx_ir (zx_mr t) S h nc ns = some (.inr rr)) ∨ (ins = .lreturn ∧ zx_lr (zx_mr t) S h nc ns = some (.inr rr)) ∨ (ins = .areturn ∧ zx_ar (zx_mr t) S h nc ns = some (.inr rr)) ∨ (ins = .return_ ∧ zx_vr (zx_mr t) S h nc ns = some (.inr rr)) := by
  unfold zx_ins at h1
  split at h1
  all_goals first | (cases h1; done) | exact (zx_i_N h1).elim | exact (zx_i_ld h1).elim | exact (zx_i_sto h1).elim | exact (zx_i_stl h1).elim | exact (zx_i_iinc h1).elim | exact (zx_i_bin h1).elim | exact (zx_i_un h1).elim | exact (zx_i_lng h1).elim | exact (zx_i_stk h1).elim | exact (zx_i_J h1).elim | exact (zx_i_if1 h1).elim | exact (zx_i_if2 h1).elim | exact (zx_i_tsw h1).elim | exact (zx_i_lsw h1).elim | exact (zx_i_gf h1).elim | exact (zx_i_pf h1).elim | exact (zx_i_gs h1).elim | exact (zx_i_al h1).elim | exact (zx_i_ial h1).elim | exact (zx_i_ias h1).elim | exact (zx_i_lal h1).elim | exact (zx_i_las h1).elim | exact (zx_i_bal h1).elim | exact (zx_i_aal h1).elim | exact (zx_i_aas h1).elim | exact (zx_i_lc h1).elim | exact (zx_i_lc2 h1).elim | exact (zx_i_new h1).elim | exact (zx_i_na h1).elim | exact (zx_i_an h1).elim | exact (zx_i_iv h1).elim | exact (zx_i_is h1).elim | exact (zx_i_ii h1).elim | exact Or.inl ⟨rfl, h1⟩ | exact Or.inr (Or.inl ⟨rfl, h1⟩) | exact Or.inr (Or.inr (Or.inl ⟨rfl, h1⟩)) | exact Or.inr (Or.inr (Or.inr ⟨rfl, h1⟩))
theorem zx_nr_ok {ty : FieldType} {v : Int32} (h1 : zx_nr ty v = true) : narrow ty (.int v) = .int v := by
  unfold zx_nr at h1
  split at h1
  · rfl
  · have h2 : v = 0 ∨ v = 1 := by simpa using h1
    rcases h2 with rfl | rfl <;> decide
  · have h2 : v.toInt8.toInt32 = v := by simpa using h1
    rw [← h2]
    exact pk_nb v
  · have h2 : (v.toUInt32 % 65536).toInt32 = v := by simpa using h1
    rw [← h2]
    exact pk_nc v
  · cases h1
theorem zx_re {st0 : zx_S} (h1 : zx_stp sc run t st0 = some (.inr rr)) : rr.2.2.1 = st0.2.2.2.2.1 ∧ rr.2.2.2 = st0.2.2.2.2.2 := by
  unfold zx_stp at h1
  split at h1
  · split at h1
    · rcases zx_e_ins h1 with ⟨-, h2⟩ | ⟨-, h2⟩ | ⟨-, h2⟩ | ⟨-, h2⟩
      · unfold zx_ir at h2
        repeat' split at h2
        all_goals first | (cases h2; done) | (cases h2; exact ⟨rfl, rfl⟩)
      · unfold zx_lr at h2
        repeat' split at h2
        all_goals first | (cases h2; done) | (cases h2; exact ⟨rfl, rfl⟩)
      · unfold zx_ar at h2
        repeat' split at h2
        all_goals first | (cases h2; done) | (cases h2; exact ⟨rfl, rfl⟩)
      · unfold zx_vr at h2
        repeat' split at h2
        all_goals first | (cases h2; done) | (cases h2; exact ⟨rfl, rfl⟩)
    · cases h1
  · cases h1
/-- a method's end -/
theorem zx_e_stp {ad0 : Nat → Nat} {h0 : List zx_C} (X : zx_Cx p R s m args meth c fx vq ct A sc D t d) (hr : meth.sig.returnType = zx_mr t) (hlocks : meth.locks = false) {st0 : zx_S} (hx0 : zx_ext ad0 h0 ad st0.2.2.2.1) (h1 : zx_stp sc run t st0 = some (.inr rr)) :
    zx_Go p l e R s m args below meth c (MQ below (zx_Qc fx vq ct A D ad0 h0 rr) args s rr.2.2.1 rr.2.2.2 A) fx vq ct A D t ad st0 := by
  obtain ⟨hx, hb, -⟩ := X
  unfold zx_stp at h1
  split at h1
  · rename_i ins len hdg
    split at h1
    · rename_i hlen
      rcases zx_e_ins h1 with ⟨rfl, h2⟩ | ⟨rfl, h2⟩ | ⟨rfl, h2⟩ | ⟨rfl, h2⟩
      · have e9 : len = 1 := by simpa [zx_lok, zx_len] using hlen
        subst e9
        obtain ⟨pc, L, S, h, nc, ns⟩ := st0
        replace h2 : zx_ir (zx_mr t) S h nc ns = some (.inr rr) := h2
        unfold zx_ir at h2
        split at h2
        · rename_i ty v e1
          split at h2
          · rename_i g
            cases h2
            intro H locs ls hP hD hS hl
            exact W.zret (v := v) hx hb (hr.trans e1) (zx_nr_ok g) (fun u hu hW => ⟨⟨ad, rfl, hx0, by rw [hu]; exact hP, hD⟩, hS.F hu⟩) hS.2.2 hdg hlocks
          · cases h2
        · cases h2
      · have e9 : len = 1 := by simpa [zx_lok, zx_len] using hlen
        subst e9
        obtain ⟨pc, L, S, h, nc, ns⟩ := st0
        replace h2 : zx_lr (zx_mr t) S h nc ns = some (.inr rr) := h2
        unfold zx_lr at h2
        split at h2
        · rename_i v e1
          cases h2
          intro H locs ls hP hD hS hl
          exact W.lret (v := v) hx hb (hr.trans e1) (fun u hu hW => ⟨⟨ad, rfl, hx0, by rw [hu]; exact hP, hD⟩, hS.F hu⟩) hS.2.2 hdg hlocks
        · cases h2
      · have e9 : len = 1 := by simpa [zx_lok, zx_len] using hlen
        subst e9
        obtain ⟨pc, L, S, h, nc, ns⟩ := st0
        replace h2 : zx_ar (zx_mr t) S h nc ns = some (.inr rr) := h2
        unfold zx_ar at h2
        split at h2
        · rename_i cn a e1
          cases h2
          intro H locs ls hP hD hS hl
          exact W.aret (v := .ref (fx 2 a)) hx hb (hr.trans e1) (Or.inl ⟨_, rfl⟩) (Or.inr ⟨_, rfl⟩) (fun u hu hW => ⟨⟨ad, rfl, hx0, by rw [hu]; exact hP, hD⟩, hS.F hu⟩) hS.2.2 hdg hlocks
        · cases h2
      · have e9 : len = 1 := by simpa [zx_lok, zx_len] using hlen
        subst e9
        obtain ⟨pc, L, S, h, nc, ns⟩ := st0
        replace h2 : zx_vr (zx_mr t) S h nc ns = some (.inr rr) := h2
        unfold zx_vr at h2
        split at h2
        · rename_i e1
          cases h2
          intro H locs ls hP hD hS hl
          exact W.vret hx hb (hr.trans e1) (fun u hu hW => ⟨⟨ad, rfl, hx0, by rw [hu]; exact hP, hD⟩, hS.F hu⟩) hS.2.2 hdg hlocks
        · cases h2
    · cases h1
  · cases h1
theorem zx_mono : ∀ (n d : Nat) (sc : zx_Sc) (t : zx_MT) (st0 : zx_S) (r : zx_R), zx_ex n d sc t st0 = some r → st0.2.2.2.2.1 ≤ r.2.2.1 ∧ st0.2.2.2.2.2 ≤ r.2.2.2
  | 0, _, _, _, _, _, h => by unfold zx_ex at h; cases h
  | n + 1, d, sc, t, st0, r, h => by
    unfold zx_ex at h
    split at h
    · rename_i st1 e
      have h1 := zx_nc_stp e
      have h2 := zx_mono n d sc t st1 r h
      exact ⟨Nat.le_trans h1.2.1 h2.1, Nat.le_trans h1.2.2 h2.2⟩
    · rename_i r' e
      cases h
      have h1 := zx_re e
      exact ⟨Nat.le_of_eq h1.1.symm, Nat.le_of_eq h1.2.symm⟩
    · cases h
/-- a run inside a frame -/
theorem zx_exW {N : Nat} (hall : ∀ n, n < N → ∀ (d k : Nat) (as : List zx_V) (h : List zx_C) (r : zx_R) (ad : Nat → Nat), k < 221 → zx_mk (zx_m k) < 3 → zx_run n d k as h = some r → zx_Met l fx vq ct A none D d k as h r ad)
    {ad0 : Nat → Nat} {h0 : List zx_C} (X : zx_Cx p R s m args meth c fx vq ct A sc D t d) (hr : meth.sig.returnType = zx_mr t) (hlocks : meth.locks = false) (hRc : rr.2.2.1 ≤ R.cells ∧ rr.2.2.2 ≤ R.slots) :
    ∀ (n : Nat), n ≤ N → ∀ (st0 : zx_S) (ad : Nat → Nat), zx_ex n d sc t st0 = some rr → st0.2.1.length ≤ zx_mn t → zx_ext ad0 h0 ad st0.2.2.2.1 → zx_Go p l e R s m args below meth c (MQ below (zx_Qc fx vq ct A D ad0 h0 rr) args s rr.2.2.1 rr.2.2.2 A) fx vq ct A D t ad st0 := by
  intro n
  induction n with
  | zero =>
    intro _ st0 ad h1
    unfold zx_ex at h1
    cases h1
  | succ n ih =>
    intro hn st0 ad h1 hLn hx0
    unfold zx_ex at h1
    split at h1
    · rename_i st1 e1
      have hm := zx_mono n d sc t st1 rr h1
      have hn1 := zx_nc_stp e1
      refine zx_s_stp X ?_ hLn e1 ⟨Nat.le_trans hm.1 hRc.1, Nat.le_trans hm.2 hRc.2⟩ (fun ad' hx1 => ih (by omega) st1 ad' h1 (by rw [hn1.1]; exact hLn) (zx_ext_tr hx0 hx1))
      intro k as h' r' ad' hk hk3 hrun
      cases d with
      | zero => cases hrun
      | succ d => exact ⟨d, rfl, hall n (by omega) d k as h' r' ad' hk hk3 hrun⟩
    · rename_i r' e1
      cases h1
      exact zx_e_stp X hr hlocks hx0 e1
    · cases h1
theorem zx_L0_len : ∀ (as : List zx_V) (n : Nat), zx_cs as ≤ n → (zx_L0 n as).length = n
  | [], n, _ => by simp [zx_L0]
  | v :: r, n, h => by
    unfold zx_cs at h
    unfold zx_L0
    by_cases g : zx_c1 v = true
    · rw [if_pos g] at h ⊢
      rw [List.length_cons, zx_L0_len r (n - 1) (by omega)]
      omega
    · rw [if_neg g] at h ⊢
      rw [List.length_cons, List.length_cons, zx_L0_len r (n - 2) (by omega)]
      omega
theorem zx_L0_args (hq : vq = .null ∨ ∃ t, vq = .ref t) : ∀ (as : List zx_V) (n o i : Nat) (v : zx_V), (zx_L0 n as)[i]? = some (some v) → (o + i, zx_c fx vq ad v) ∈ lv_args o (as.map (zx_c fx vq ad))
  | [], n, o, i, v, h => by
    unfold zx_L0 at h
    rw [List.getElem?_replicate] at h
    split at h <;> cases h
  | w :: r, n, o, i, v, h => by
    unfold zx_L0 at h
    show _ ∈ (o, zx_c fx vq ad w) :: lv_args (if (zx_c fx vq ad w).category = 2 then o + 2 else o + 1) (r.map (zx_c fx vq ad))
    by_cases g : zx_c1 w = true
    · rw [if_pos g] at h
      have hc : ¬ (zx_c fx vq ad w).category = 2 := by rw [zx_cat1 hq g]; decide
      rw [if_neg hc]
      cases i with
      | zero =>
        have e : w = v := Option.some.inj (Option.some.inj h)
        rw [e]
        exact List.mem_cons_self
      | succ i =>
        have h2 := zx_L0_args hq r (n - 1) (o + 1) i v h
        rw [show o + (i + 1) = o + 1 + i by omega]
        exact List.mem_cons_of_mem _ h2
    · rw [if_neg g] at h
      rw [if_pos (zx_cat2 hq g)]
      cases i with
      | zero =>
        have e : w = v := Option.some.inj (Option.some.inj h)
        rw [e]
        exact List.mem_cons_self
      | succ i =>
        cases i with
        | zero => cases h
        | succ i =>
          have h2 := zx_L0_args hq r (n - 2) (o + 2) i v h
          rw [show o + (i + 1 + 1) = o + 2 + i by omega]
          exact List.mem_cons_of_mem _ h2
theorem zx_sl_len (hq : vq = .null ∨ ∃ t, vq = .ref t) : ∀ (as : List zx_V), (lg_sl (as.map (zx_c fx vq ad))).length = zx_cs as
  | [] => rfl
  | v :: r => by
    show ((if (zx_c fx vq ad v).category = 2 then [Slot.val (zx_c fx vq ad v), .second] else [Slot.val (zx_c fx vq ad v)]) ++ lg_sl (r.map (zx_c fx vq ad))).length = _
    rw [List.length_append, zx_sl_len hq r, show zx_cs (v :: r) = (if zx_c1 v then 1 else 2) + zx_cs r from rfl]
    by_cases g : zx_c1 v = true
    · rw [if_pos g, if_neg (by rw [zx_cat1 hq g]; decide)]
      rfl
    · rw [if_neg g, if_pos (zx_cat2 hq g)]
      rfl
theorem zx_plain {k : Nat} (hk : k < 221) (hk3 : zx_mk (zx_m k) < 3) : plainName (zx_my (zx_m k)).cls = true := by
  obtain ⟨-, -, -, -, -, -, f0, f1, f2, -, -⟩ := zx_mfacts hk
  rcases (show zx_mk (zx_m k) = 0 ∨ zx_mk (zx_m k) = 1 ∨ zx_mk (zx_m k) = 2 by omega) with g | g | g
  · exact (f0 g).2.2
  · exact (f1 g).2
  · exact (f2 g).2.2.2
/-- THE SMALL MACHINE'S RUNS ARE CONTRACTS -/
theorem zx_sound : ∀ (N d k : Nat) (as : List zx_V) (h : List zx_C) (r : zx_R) (ad : Nat → Nat), k < 221 → zx_mk (zx_m k) < 3 → zx_run N d k as h = some r → zx_Met l fx vq ct A none D d k as h r ad := by
  intro N
  induction N using Nat.strongRecOn with
  | ind N IH =>
    intro d k as h r ad hk hk3 hrun
    unfold zx_run at hrun
    split at hrun
    · rename_i hcs
      unfold zx_Met
      refine Met.ofW (cc := zx_mb (zx_m k)) (maxL := zx_mn (zx_m k)) (ret := zx_mr (zx_m k)) (zx_plain hk hk3) rfl ?_
      intro p e s m args below meth c s₁ B hml hv
      obtain ⟨rfl, hP, hD, hK, hA, hSt⟩ := hv
      have hq := hSt.2.2.2.2.2.2.2.2.1
      have hf := zx_mfacts hk
      have hown : s.vm.findClass (zx_o (zx_mo (zx_m k))) = some m.cls := by rw [hf.2.1]; exact findClass_of_methodNamed B.named
      have hts : ∀ w ∈ zx_G, w.before ((as.map (zx_c fx vq ad)).toArray) s = true := fun w hw => atoms_spec (ws := zx_ws k) B.pre w (List.mem_cons_of_mem _ hw)
      have X : zx_Cx p (headSpec (zx_ws k) (zx_rm d r)).room s m ((as.map (zx_c fx vq ad)).toArray) meth c fx vq ct A none D (zx_m k) d :=
        ⟨B.exec, B.bytes, hml, hown, hts, hK, hA, hSt, ⟨Nat.le_refl _, Nat.le_refl _⟩, fun g => ((name_of_methodNamed B.named B.method).1).trans (hf.2.2.2.2.2.2.2.2.1 g).2.1⟩
      rw [lg_entry_eq]
      have hen := lv_entry (as.map (zx_c fx vq ad)) (n := zx_mn (zx_m k)) (by rw [zx_sl_len hq]; exact hcs)
      refine zx_exW IH X B.returns B.notSynchronized ⟨Nat.le_refl _, Nat.le_refl _⟩ N (Nat.le_refl N) (0, zx_L0 (zx_mn (zx_m k)) as, [], h, 0, 0) ad hrun (Nat.le_of_eq (zx_L0_len as _ hcs)) (zx_ext_sm rfl) s.heap [] _ hP hD va_S.rf (zx_l_sub hen ?_)
      rintro ⟨i, w⟩ hm
      obtain ⟨v, h1, rfl⟩ := zx_l_mem.mp hm
      have h2 := zx_L0_args (fx := fx) (ad := ad) hq as _ 0 i v h1
      rw [Nat.zero_add] at h2
      exact h2
    · cases hrun
end
end
section
/-! part 14: what the statement gives of the start: laid by wip/p2/start.py -/
def zx_fl : List Cond := flatC (Jvm.Cond.and given_1 narrow_1)
def zx_fat (p : Nat) (w : Cond) : Bool := match zx_fl[p]? with
  | some w' => decide (w' = w)
  | none => false
theorem zx_fat_mem {p : Nat} {w : Cond} (h : zx_fat p w = true) : w ∈ zx_fl := by
  unfold zx_fat at h
  split at h
  · rename_i w' e
    have e2 : w' = w := by simpa using h
    subst e2
    exact List.mem_of_getElem? e
  · cases h
def zx_sr : List (Nat × Nat × Nat × Nat × List Nat) := [(87, 88, 89, 90, [91, 92]), (93, 94, 95, 96, [97, 98, 99, 100]), (102, 103, 104, 105, [106, 107, 108, 109, 110]), (113, 114, 115, 116, [117, 118, 119, 120, 121, 122]), (126, 127, 128, 129, [130, 131, 132, 133, 134]), (139, 140, 141, 142, [143, 144, 145]), (151, 152, 153, 154, [155, 156, 157]), (164, 165, 166, 167, [168, 169, 170, 171]), (179, 180, 181, 182, [183, 184, 185]), (194, 195, 196, 197, [198, 199, 200, 201]), (211, 212, 213, 214, [215, 216, 217, 218, 219, 220, 221, 222]), (233, 234, 235, 236, [237, 238, 239, 240, 241])]
def zx_ne : List (Nat × Nat × Nat) := [(0, 1, 101), (0, 2, 111), (0, 3, 123), (0, 4, 135), (0, 5, 146), (0, 6, 158), (0, 7, 172), (0, 8, 186), (0, 9, 202), (0, 10, 223), (0, 11, 242), (1, 2, 112), (1, 3, 124), (1, 4, 136), (1, 5, 147), (1, 6, 159), (1, 7, 173), (1, 8, 187), (1, 9, 203), (1, 10, 224), (1, 11, 243), (2, 3, 125), (2, 4, 137), (2, 5, 148), (2, 6, 160), (2, 7, 174), (2, 8, 188), (2, 9, 204), (2, 10, 225), (2, 11, 244), (3, 4, 138), (3, 5, 149), (3, 6, 161), (3, 7, 175), (3, 8, 189), (3, 9, 205), (3, 10, 226), (3, 11, 245), (4, 5, 150), (4, 6, 162), (4, 7, 176), (4, 8, 190), (4, 9, 206), (4, 10, 227), (4, 11, 246), (5, 6, 163), (5, 7, 177), (5, 8, 191), (5, 9, 207), (5, 10, 228), (5, 11, 247), (6, 7, 178), (6, 8, 192), (6, 9, 208), (6, 10, 229), (6, 11, 248), (7, 8, 193), (7, 9, 209), (7, 10, 230), (7, 11, 249), (8, 9, 210), (8, 10, 231), (8, 11, 250), (9, 10, 232), (9, 11, 251), (10, 11, 252)]
def zx_ar4 : List (Nat × Nat × List Nat) := [(5, 6, [7, 8, 9, 10, 11, 12, 13]), (15, 16, [17, 18, 19, 20, 21, 22, 23]), (25, 26, [27, 28, 29, 30, 31]), (33, 34, [35, 36, 37, 38, 39]), (46, 47, [48, 49, 50, 51, 52, 53, 54, 55, 56, 57, 58, 59, 60, 61, 62, 63, 64, 65, 66, 67, 68])]
def zx_sp : List (Nat × Nat) := [(467, 81), (480, 81), (518, 81), (520, 81), (944, 87), (602, 92), (618, 94)]
def zx_tm (i : Nat) : Term := .string RX4 ((zx_st[i]?).getD ("", 0, 0)).2.1
def zx_fv (i : Nat) : Term := .field (zx_tm i) "java/lang/String" "value" "[B"
def zx_ks (i : Nat) : Bool := match zx_sr[i]? with
  | some (a, b, c, d, e) => zx_fat a (.exactly (zx_tm i) "java/lang/String") && (zx_fat b (.eq (.field (zx_tm i) "java/lang/String" "coder" "B") (.int 0)) && (zx_fat c (.arrayOf (zx_fv i) .byte) && (zx_fat d (.eq (.length (zx_fv i)) (.int (Int32.ofNat (zx_sl.getD i 0)))) && (decide (e.length = zx_sl.getD i 0) && e.zipIdx.all (fun q => zx_fat q.1 (.eq (.elem (zx_fv i) (.int (Int32.ofNat q.2))) (.int ((zx_sb.getD i []).getD q.2 0))))))))
  | none => false
set_option maxRecDepth 100000 in
theorem zx_ks_0 : zx_ks 0 = true := by decide +kernel
set_option maxRecDepth 100000 in
theorem zx_ks_1 : zx_ks 1 = true := by decide +kernel
set_option maxRecDepth 100000 in
theorem zx_ks_2 : zx_ks 2 = true := by decide +kernel
set_option maxRecDepth 100000 in
theorem zx_ks_3 : zx_ks 3 = true := by decide +kernel
set_option maxRecDepth 100000 in
theorem zx_ks_4 : zx_ks 4 = true := by decide +kernel
set_option maxRecDepth 100000 in
theorem zx_ks_5 : zx_ks 5 = true := by decide +kernel
set_option maxRecDepth 100000 in
theorem zx_ks_6 : zx_ks 6 = true := by decide +kernel
set_option maxRecDepth 100000 in
theorem zx_ks_7 : zx_ks 7 = true := by decide +kernel
set_option maxRecDepth 100000 in
theorem zx_ks_8 : zx_ks 8 = true := by decide +kernel
set_option maxRecDepth 100000 in
theorem zx_ks_9 : zx_ks 9 = true := by decide +kernel
set_option maxRecDepth 100000 in
theorem zx_ks_10 : zx_ks 10 = true := by decide +kernel
set_option maxRecDepth 100000 in
theorem zx_ks_11 : zx_ks 11 = true := by decide +kernel
theorem zx_ks_all {i : Nat} (h : i < 12) : zx_ks i = true := by
  rcases (show i = 0 ∨ i = 1 ∨ i = 2 ∨ i = 3 ∨ i = 4 ∨ i = 5 ∨ i = 6 ∨ i = 7 ∨ i = 8 ∨ i = 9 ∨ i = 10 ∨ i = 11 by omega) with rfl | rfl | rfl | rfl | rfl | rfl | rfl | rfl | rfl | rfl | rfl | rfl
  · exact zx_ks_0
  · exact zx_ks_1
  · exact zx_ks_2
  · exact zx_ks_3
  · exact zx_ks_4
  · exact zx_ks_5
  · exact zx_ks_6
  · exact zx_ks_7
  · exact zx_ks_8
  · exact zx_ks_9
  · exact zx_ks_10
  · exact zx_ks_11
set_option maxRecDepth 100000 in
theorem zx_kn : zx_ne.all (fun q => zx_fat q.2.2 (.not (.eq (zx_tm q.1) (zx_tm q.2.1)))) = true := by decide +kernel
set_option maxRecDepth 100000 in
theorem zx_kn2 : (List.range 12).all (fun i => (List.range 12).all (fun j => decide (i < j → ∃ q ∈ zx_ne, q.1 = i ∧ q.2.1 = j))) = true := by decide +kernel
def zx_tg (g : Nat) : Term := .static (zx_sx g).1 (zx_sx g).2.1 (zx_sx g).2.2
def zx_kg (g : Nat) : Bool := match zx_ar4[g]?, zx_sp[g]? with
  | some (a, b, e), some (c, d) => zx_fat a (.arrayOf (zx_tg g) .int) && (zx_fat b (.eq (.length (zx_tg g)) (.int (Int32.ofNat (zx_sa.getD g []).length))) && (decide (e.length = (zx_sa.getD g []).length) && (e.zipIdx.all (fun q => zx_fat q.1 (.eq (.elem (zx_tg g) (.int (Int32.ofNat q.2))) (.int ((zx_sa.getD g []).getD q.2 0)))) && (zx_at c (.laysStatic (zx_sx g).1 (zx_sx g).2.1 (zx_sx g).2.2) && zx_at d (.initialized (zx_sx g).1)))))
  | _, _ => false
set_option maxRecDepth 100000 in
theorem zx_kg_0 : zx_kg 0 = true := by decide +kernel
set_option maxRecDepth 100000 in
theorem zx_kg_1 : zx_kg 1 = true := by decide +kernel
set_option maxRecDepth 100000 in
theorem zx_kg_2 : zx_kg 2 = true := by decide +kernel
set_option maxRecDepth 100000 in
theorem zx_kg_3 : zx_kg 3 = true := by decide +kernel
set_option maxRecDepth 100000 in
theorem zx_kg_4 : zx_kg 4 = true := by decide +kernel
theorem zx_kg_all {i : Nat} (h : i < 5) : zx_kg i = true := by
  rcases (show i = 0 ∨ i = 1 ∨ i = 2 ∨ i = 3 ∨ i = 4 by omega) with rfl | rfl | rfl | rfl | rfl
  · exact zx_kg_0
  · exact zx_kg_1
  · exact zx_kg_2
  · exact zx_kg_3
  · exact zx_kg_4
set_option maxRecDepth 100000 in
theorem zx_kst5 : (zx_fat 40 (.eq (zx_tg 5) (.int 1)) && (zx_at 602 (.laysStatic (zx_sx 5).1 (zx_sx 5).2.1 (zx_sx 5).2.2) && (zx_at 92 (.initialized (zx_sx 5).1) && (zx_fat 41 (.isRef (zx_tg 6)) && (zx_at 618 (.laysStatic (zx_sx 6).1 (zx_sx 6).2.1 (zx_sx 6).2.2) && zx_at 94 (.initialized (zx_sx 6).1)))))) = true := by decide +kernel
theorem zx_strings {args : Array Value} {s : State} {A : Nat → Prop} (hf : ∀ w ∈ zx_fl, w.before args s = true) (hA : ∀ a : Nat, a < s.heap.size → ¬ A a) : ∃ adK adV : Nat → Nat, vk_S 12 zx_sl zx_sb adK adV A s s.heap ∧ ∀ i : Nat, i < 12 → (zx_tm i).eval args s none [] s = some (.ref (adK i)) := by
  have key : ∀ i : Nat, i < 12 → (Cond.exactly (zx_tm i) "java/lang/String").before args s = true ∧ (Cond.eq (.field (zx_tm i) "java/lang/String" "coder" "B") (.int 0)).before args s = true ∧ (Cond.arrayOf (zx_fv i) .byte).before args s = true ∧ (Cond.eq (.length (zx_fv i)) (.int (Int32.ofNat (zx_sl.getD i 0)))).before args s = true ∧ ∀ j : Nat, j < zx_sl.getD i 0 → (Cond.eq (.elem (zx_fv i) (.int (Int32.ofNat j))) (.int ((zx_sb.getD i []).getD j 0))).before args s = true := by
    intro i hi
    have h1 := zx_ks_all hi
    unfold zx_ks at h1
    split at h1
    · rename_i a b c d e h2
      simp only [Bool.and_eq_true, decide_eq_true_eq] at h1
      obtain ⟨g1, g2, g3, g4, g5, g6⟩ := h1
      refine ⟨hf _ (zx_fat_mem g1), hf _ (zx_fat_mem g2), hf _ (zx_fat_mem g3), hf _ (zx_fat_mem g4), fun j hj => ?_⟩
      have hj2 : j < e.length := by rw [g5]; exact hj
      have h3 := List.all_eq_true.mp g6 (e[j], j) (List.mem_zipIdx_iff_getElem?.mpr (List.getElem?_eq_getElem hj2))
      exact hf _ (zx_fat_mem h3)
    · cases h1
  refine vk_Sof (tm := zx_tm) ?_ (fun i hi => (key i hi).1) (fun i hi => (key i hi).2.1) (fun i hi => (key i hi).2.2.1) (fun i hi => (key i hi).2.2.2.1) (fun i hi => (key i hi).2.2.2.2) ?_ hA
  · intro i hi
    rcases (show i = 0 ∨ i = 1 ∨ i = 2 ∨ i = 3 ∨ i = 4 ∨ i = 5 ∨ i = 6 ∨ i = 7 ∨ i = 8 ∨ i = 9 ∨ i = 10 ∨ i = 11 by omega) with rfl | rfl | rfl | rfl | rfl | rfl | rfl | rfl | rfl | rfl | rfl | rfl <;> decide
  · intro i j hi hj hij
    have h1 := fun (a b : Nat) (ha : a < 12) (hb : b < 12) (hab : a < b) => (of_decide_eq_true (List.all_eq_true.mp (List.all_eq_true.mp zx_kn2 a (List.mem_range.mpr ha)) b (List.mem_range.mpr hb))) hab
    rcases Nat.lt_or_gt_of_ne hij with h2 | h2
    · obtain ⟨q, hq, rfl, rfl⟩ := h1 i j hi hj h2
      exact Or.inl (hf _ (zx_fat_mem (List.all_eq_true.mp zx_kn q hq)))
    · obtain ⟨q, hq, rfl, rfl⟩ := h1 j i hj hi h2
      exact Or.inr (hf _ (zx_fat_mem (List.all_eq_true.mp zx_kn q hq)))
theorem zx_rows {args : Array Value} {s : State} {A : Nat → Prop} (hf : ∀ w ∈ zx_fl, w.before args s = true) (hts : ∀ w ∈ lw_tbl, w.before args s = true) (hA : ∀ a : Nat, a < s.heap.size → ¬ A a) {g : Nat} (hg : g < 5) : ∃ t : Nat, va_Z (zx_sx g).1 (zx_sx g).2.1 (zx_sx g).2.2 (.ref t) A s s.heap ∧ va_T .int t (zx_sa.getD g []).length (fun j => .int ((zx_sa.getD g []).getD j 0)) A s s.heap := by
  have h1 := zx_kg_all hg
  unfold zx_kg at h1
  split at h1
  · rename_i a b e c d h2 h3
    simp only [Bool.and_eq_true, decide_eq_true_eq] at h1
    obtain ⟨g1, g2, g3, g4, g5, g6⟩ := h1
    obtain ⟨t, ht, hT⟩ := va_Tof (ty := .int) (f := fun j => .int ((zx_sa.getD g []).getD j 0)) (A := A) (N := (zx_sa.getD g []).length) (by rcases (show g = 0 ∨ g = 1 ∨ g = 2 ∨ g = 3 ∨ g = 4 by omega) with rfl | rfl | rfl | rfl | rfl <;> decide) (hf _ (zx_fat_mem g1)) (va_eqt (hf _ (zx_fat_mem g2))) (fun j hj => by
      have hj2 : j < e.length := by rw [g3]; exact hj
      have h4 := List.all_eq_true.mp g4 (e[j], j) (List.mem_zipIdx_iff_getElem?.mpr (List.getElem?_eq_getElem hj2))
      exact va_eqt (hf _ (zx_fat_mem h4))) hA
    exact ⟨t, va_Zof (hts _ (zx_at_mem g5)) (hts _ (zx_at_mem g6)) ht hA, hT⟩
  · cases h1
theorem zx_start {args : Array Value} {s : State} {b L : Nat} {xs : Nat → Int32} (hf : ∀ w ∈ zx_fl, w.before args s = true) (hts : ∀ w ∈ lw_tbl, w.before args s = true) (hX : va_X b L xs s s.heap) (hb : b < s.heap.size) :
    ∃ (fx : Nat → Nat → Nat) (vq : Value) (ct : Nat → ClassId) (D : va_G), fx 5 0 = b ∧ zx_St fx vq (fun q : Nat => s.heap.size ≤ q) (some (L, xs)) s s.heap ∧ va_K D zx_cl (zx_tys ct) s := by
  have hA : ∀ a : Nat, a < s.heap.size → ¬ (fun q : Nat => s.heap.size ≤ q) a := fun a h => Nat.not_le.mpr h
  obtain ⟨adK, adV, hS, hE⟩ := zx_strings (A := fun q : Nat => s.heap.size ≤ q) hf hA
  obtain ⟨t0, z0, r0⟩ := zx_rows hf hts hA (g := 0) (by decide)
  obtain ⟨t1, z1, r1⟩ := zx_rows hf hts hA (g := 1) (by decide)
  obtain ⟨t2, z2, r2⟩ := zx_rows hf hts hA (g := 2) (by decide)
  obtain ⟨t3, z3, r3⟩ := zx_rows hf hts hA (g := 3) (by decide)
  obtain ⟨t4, z4, r4⟩ := zx_rows hf hts hA (g := 4) (by decide)
  have h5 := zx_kst5
  simp only [Bool.and_eq_true] at h5
  obtain ⟨g1, g2, g3, g4, g5, g6⟩ := h5
  have hz5 : va_Z (zx_sx 5).1 (zx_sx 5).2.1 (zx_sx 5).2.2 (.int 1) (fun q : Nat => s.heap.size ≤ q) s s.heap := va_Zof (hts _ (zx_at_mem g2)) (hts _ (zx_at_mem g3)) (va_eqi (hf _ (zx_fat_mem g1))) hA
  have hz6 : ∃ vq : Value, va_Z (zx_sx 6).1 (zx_sx 6).2.1 (zx_sx 6).2.2 vq (fun q : Nat => s.heap.size ≤ q) s s.heap ∧ (vq = .null ∨ ∃ t, vq = .ref t) := by
    rcases va_Zqof (A := fun q : Nat => s.heap.size ≤ q) (hts _ (zx_at_mem g5)) (hts _ (zx_at_mem g6)) (hf _ (zx_fat_mem g4)) hA with h | ⟨t, h⟩
    · exact ⟨_, h, Or.inl rfl⟩
    · exact ⟨_, h, Or.inr ⟨t, rfl⟩⟩
  obtain ⟨vq, hq1, hq2⟩ := hz6
  have hG : ∀ w ∈ zx_G, w.before args s = true := fun w hw => hts w (List.mem_filter.mp hw).1
  have hXX := zx_ckX
  simp only [Bool.and_eq_true] at hXX
  obtain ⟨c0, k0, p0, a1, a2, a3⟩ := Cond.arrayClass_spec (hG _ (zx_inG_mem hXX.1))
  obtain ⟨c1, k1, p1, b1, b2, b3⟩ := Cond.arrayClass_spec (hG _ (zx_inG_mem hXX.2.1))
  obtain ⟨p2, c2, k2, d1, -, d2, d3, d4⟩ := Cond.arrayOver_spec (hts _ (zx_at_mem zx_ckY.1))
  obtain ⟨p3, c3, k3, e1, -, e2, e3, e4⟩ := Cond.arrayOver_spec (hts _ (zx_at_mem zx_ckY.2))
  have hkn : ∀ i : Nat, i < 9 → ∃ (cC : ClassId) (iS : Nat → Nat), u_Kn s (zx_R9 i) (zx_T8 i) (zx_fn i) cC iS := by
    intro i hi
    have hpI := List.all_eq_true.mp zx_ckP i (List.mem_range.mpr hi)
    split at hpI
    · rw [Bool.and_eq_true] at hpI
      exact u_known (ws := zx_G) hG (zx_hin hi) (hG _ (zx_inG_mem hpI.1))
    · cases hpI
  have hkn2 : ∀ i : Nat, ∃ q : ClassId × (Nat → Nat), i < 9 → u_Kn s (zx_R9 i) (zx_T8 i) (zx_fn i) q.1 q.2 := by
    intro i
    by_cases hi : i < 9
    · obtain ⟨a, b, h⟩ := hkn i hi
      exact ⟨(a, b), fun _ => h⟩
    · exact ⟨(c0, fun _ => 0), fun h => absurd h hi⟩
  obtain ⟨dd, hdd⟩ := Classical.axiomOfChoice hkn2
  refine ⟨fun t i => if t = 2 then adK i else if t = 3 then adV i else if t = 4 then (if i = 0 then t0 else if i = 1 then t1 else if i = 2 then t2 else if i = 3 then t3 else t4) else b, vq, fun t => if t = 0 then c0 else if t = 1 then c1 else if t = 2 then c2 else c3, (fun i => (dd i).1, fun i => (dd i).2), rfl, ⟨?_, ?_, ?_, ?_, hS, ?_, hz5, hq1, hq2, fun q e => by cases e; exact ⟨hX, hb, Nat.not_le.mpr hb⟩⟩, ⟨?_, ?_⟩⟩
  · intro w hw
    have h1 := zx_nw_k hw
    have h2 := hts w (List.mem_filter.mp hw).1
    cases w <;> first | exact va_Nw.of rfl h2 | (exact absurd h1 (by intro z; cases z))
  · exact va_AO.of (hts _ (zx_at_mem zx_ckY.1))
  · exact va_AO.of (hts _ (zx_at_mem zx_ckY.2))
  · intro i q hi
    have hi12 : i < 12 := (List.getElem?_eq_some_iff.mp hi).1
    have h1 := List.all_eq_true.mp zx_ckS q (List.mem_of_getElem? hi)
    have h2 := hE i hi12
    unfold zx_tm at h2
    rw [hi] at h2
    exact vk_R.of (hts _ (zx_at_mem h1)) h2
  · intro i hi
    rcases (show i = 0 ∨ i = 1 ∨ i = 2 ∨ i = 3 ∨ i = 4 by omega) with rfl | rfl | rfl | rfl | rfl
    · exact ⟨z0, r0⟩
    · exact ⟨z1, r1⟩
    · exact ⟨z2, r2⟩
    · exact ⟨z3, r3⟩
    · exact ⟨z4, r4⟩
  · intro c q hc
    have hc9 : c < 9 := (List.getElem?_eq_some_iff.mp hc).1
    rw [zx_clk hc9] at hc
    cases hc
    exact hdd c hc9
  · intro k q hk
    have hk4 : k < 4 := (List.getElem?_eq_some_iff.mp hk).1
    rcases (show k = 0 ∨ k = 1 ∨ k = 2 ∨ k = 3 by omega) with rfl | rfl | rfl | rfl
    · cases hk
      exact ⟨fun n z => ⟨fun k h => (by cases h), k0, a2, p0, a3⟩, a1⟩
    · cases hk
      exact ⟨fun n z => ⟨fun k h => (by cases h), k1, b2, p1, b3⟩, b1⟩
    · cases hk
      exact ⟨fun n z => ⟨fun k h => (by cases h), k2, d2, p2, d3⟩, k2, p2, d2, d3, d1, d4⟩
    · cases hk
      exact ⟨fun n z => ⟨fun k h => (by cases h), k3, e2, p3, e3⟩, k3, p3, e2, e3, e1, e4⟩
end
section
/-! part 15: the law: a run of the small machine that answers 1 closes it (the rows ahead of zx_tl are the kit's skeleton) -/
/-! THE CLAIM OUT OF ONE WALK OF THE LAW'S BODY. Your part is whole_start (and what it stands on); all else here is the same for every law, but numbers. -/
def R_law : String := "CarriedAsFarAsTheStileLaw"
def lw_P (b : Addr) (xs : List Int32) (args : Array Value) (s : State) : Prop := args = #[.ref b] ∧ s.IntsAt b xs ∧ xs.length ≤ 3072 ∧ (Jvm.Cond.and given_1 narrow_1).before args s = true
def lw_Q (_ : Array Value) (s : State) (o : Outcome) (t : State) : Prop := o = .returned (some (.int 1)) ∧ Framed s o t [] 600000 7302250
def lw_Z (below : List Frame) (a : Array Value) (s : State) : State → Prop := fun t => ∃ o, t.status = .running ∧ Ended t below o ∧ lw_Q a s o t
/-- the law's own end, with 1 on the stack, nothing written that was there before, its room as the claim has it -/
theorem lw_ret {p : Program} {l : Launch} {e : Env} {s : State} {m : MethodId} {below : List Frame} {meth : Method} {c : Code} {b : Nat} (hx : p.tables.exec = Jvm.exec) (hb : c.code = code) (hr : meth.sig.returnType = ret) (hlocks : meth.locks = false) {pc : Nat} {H : Heap} {ls : Array Slot} (hdg : decode code pc = .ok (.ireturn, 1)) : W p l e room_1 s m #[Value.ref b] below meth c H [] 600000 7302250 (lw_Z below #[Value.ref b] s) (F0 m pc ls [.int 1]) := by
  intro T hT X
  obtain ⟨fs, hret, hrun, hended, hW, hframe⟩ := X.leave (v := some (.int 1)) (hlocks := hlocks) (fun h => by rw [hr] at h; cases h)
  have hmeth' : T.vm.method? m = some meth := X.method'
  refine ⟨T.setFrames fs, ?_, .returned (some (.int 1)), hrun, hended, rfl, ⟨_, rfl⟩, hW, hframe⟩
  jvm_step X.here [X.here.top, hx, hb, hdg, hmeth', hr, ret, narrow_b1]
  (try refine ⟨rfl, ?_⟩); (try refine ⟨rfl, ?_⟩)
  first | (intro acts; rw [hret _ acts rfl rfl rfl]) | rw [hret _ _ rfl rfl rfl]
  exact Steps.refl _
/-- what holds at the law's entry: the machine, the code, the tables' words (any of lw_tbl by 'hts w (by decide +kernel)'), the script of L ints xs at the cell b, what the Statement gives of the start (any of its parts by flat_of_before) -/
def lw_At (p : Program) (s : State) (m : MethodId) (meth : Method) (c : Code) (b L : Nat) (xs : Nat → Int32) : Prop :=
  p.tables.exec = Jvm.exec ∧ c.code = code ∧ meth.sig.returnType = ret ∧ c.maxLocals = 4 ∧ s.vm.findClass R_law = some m.cls ∧ (∀ w ∈ lw_tbl, w.before #[Value.ref b] s = true) ∧ va_X b L xs s s.heap ∧ b < s.heap.size ∧ meth.locks = false ∧ (Jvm.Cond.and given_1 narrow_1).before #[Value.ref b] s = true
def zx_tl : zx_MT := (14, x, code, 4, some .boolean, 1, 1)
def zx_sl0 : zx_S := (0, [some (.inr (.inr (5, 0))), none, none, none], [], [], 0, 0)
section
variable {p : Program} {l : Launch} {e : Env} {R : Room} {s : State} {m : MethodId} {args : Array Value} {below : List Frame} {meth : Method} {c : Code} {Q : State → Prop}
variable {fx : Nat → Nat → Nat} {vq : Value} {ct : Nat → ClassId} {ad : Nat → Nat} {A : Nat → Prop} {sc : zx_Sc} {D : va_G} {t : zx_MT} {d : Nat}
variable {pc nc ns : Nat} {L : List (Option zx_V)} {S : List zx_V} {h : List zx_C} {st : zx_S}
variable {rr : zx_R}
theorem zx_exQ {N : Nat} (X : zx_Cx p R s m args meth c fx vq ct A sc D t d) (hRc : rr.2.2.1 ≤ R.cells ∧ rr.2.2.2 ≤ R.slots)
    (kend : ∀ (st1 : zx_S) (ad1 : Nat → Nat), zx_stp sc (fun k as h => match N with | 0 => none | _ => none) t st1 = some (.inr rr) ∨ (∃ run, zx_stp sc run t st1 = some (.inr rr)) → zx_Go p l e R s m args below meth c Q fx vq ct A D t ad1 st1) :
    ∀ (n : Nat) (st0 : zx_S) (ad : Nat → Nat), zx_ex n d sc t st0 = some rr → st0.2.1.length ≤ zx_mn t → zx_Go p l e R s m args below meth c Q fx vq ct A D t ad st0 := by
  intro n
  induction n with
  | zero =>
    intro st0 ad h1
    unfold zx_ex at h1
    cases h1
  | succ n ih =>
    intro st0 ad h1 hLn
    unfold zx_ex at h1
    split at h1
    · rename_i st1 e1
      have hm := zx_mono n d sc t st1 rr h1
      have hn1 := zx_nc_stp e1
      refine zx_s_stp X ?_ hLn e1 ⟨Nat.le_trans hm.1 hRc.1, Nat.le_trans hm.2 hRc.2⟩ (fun ad' hx1 => ih st1 ad' h1 (by rw [hn1.1]; exact hLn))
      intro k as h' r' ad' hk hk3 hrun
      cases d with
      | zero => cases hrun
      | succ d => exact ⟨d, rfl, zx_sound n d k as h' r' ad' hk hk3 hrun⟩
    · rename_i r' e1
      cases h1
      exact kend st0 ad (Or.inr ⟨_, e1⟩)
    · cases h1
end
theorem zx_whole {p : Program} {e : Env} {s : State} {m : MethodId} {below : List Frame} {meth : Method} {c : Code} (l : Launch) {b L : Nat} {xs : Nat → Int32}
    (hrun : ∃ (n : Nat) (r : zx_R), zx_ex n 200 (some (L, xs)) zx_tl zx_sl0 = some r ∧ r.1 = some (.inl 1) ∧ r.2.2.1 ≤ 600000 ∧ r.2.2.2 ≤ 7302250) (C0 : lw_At p s m meth c b L xs) : W p l e room_1 s m #[Value.ref b] below meth c s.heap [] 0 0 (lw_Z below #[Value.ref b] s) (entryFrame m ([Value.ref b] : List Value).toArray 4) := by
  obtain ⟨hx, hb, hr, hml, hown, hts, hX, hbl, hlocks, hgv⟩ := C0
  obtain ⟨n, r, hex, h1, hc1, hc2⟩ := hrun
  have hf : ∀ w ∈ zx_fl, w.before #[Value.ref b] s = true := flat_of_before _ hgv
  obtain ⟨fx, vq, ct, D, hfb, hSt, hK⟩ := zx_start (args := #[Value.ref b]) hf hts hX hbl
  have hq := hSt.2.2.2.2.2.2.2.2.1
  have X : zx_Cx p room_1 s m #[Value.ref b] meth c fx vq ct (fun q : Nat => s.heap.size ≤ q) (some (L, xs)) D zx_tl 200 :=
    ⟨hx, hb, hml, hown, fun w hw => hts w (List.mem_filter.mp hw).1, hK, fun _ h => h, hSt, ⟨by decide, by decide⟩, fun g => by cases g⟩
  have hen := lv_entry ([.ref b]) (n := 4) (Nat.le_of_ble_eq_true rfl)
  rw [lg_entry_eq]
  refine zx_exQ (N := 0) X ⟨hc1, hc2⟩ ?_ n zx_sl0 (fun _ => 0) hex (by decide) s.heap [] _ (fun k q h => by simp [zx_w, zx_sl0] at h) ⟨fun i j p q h => by simp [zx_w, zx_sl0] at h, fun k q h => by simp [zx_w, zx_sl0] at h⟩ va_S.rf (zx_l_sub hen ?_)
  · intro st1 ad1 hs
    have hs2 : ∃ run, zx_stp (some (L, xs)) run zx_tl st1 = some (.inr r) := by
      rcases hs with h | h
      · exact ⟨_, h⟩
      · exact h
    obtain ⟨run, h2⟩ := hs2
    unfold zx_stp at h2
    split at h2
    · rename_i ins len hdg
      split at h2
      · rename_i hlen
        obtain ⟨pc, L1, S1, h9, nc, ns⟩ := st1
        rcases zx_e_ins h2 with ⟨rfl, h3⟩ | ⟨rfl, h3⟩ | ⟨rfl, h3⟩ | ⟨rfl, h3⟩
        · have e9 : len = 1 := by simpa [zx_lok, zx_len] using hlen
          subst e9
          replace h3 : zx_ir (some .boolean) S1 h9 nc ns = some (.inr r) := h3
          unfold zx_ir at h3
          split at h3
          · rename_i ty v e1
            split at h3
            · cases h3
              have hv : v = 1 := by
                have h4 : (some (Sum.inl v) : Option zx_V) = some (.inl 1) := h1
                exact Sum.inl.inj (Option.some.inj h4)
              subst hv
              intro H locs ls hP hD hS hl
              refine va_forget (fun q hq => hS.2.2 q hq) ?_
              refine W.widen (k := 600000) (n := 7302250) hc1 hc2 ?_
              exact lw_ret hx hb hr hlocks hdg
            · cases h3
          · cases h3
        · exfalso
          replace h3 : zx_lr (some .boolean) S1 h9 nc ns = some (.inr r) := h3
          unfold zx_lr at h3
          split at h3
          · rename_i e1; cases e1
          · cases h3
        · exfalso
          replace h3 : zx_ar (some .boolean) S1 h9 nc ns = some (.inr r) := h3
          unfold zx_ar at h3
          split at h3
          · rename_i e1; cases e1
          · cases h3
        · exfalso
          replace h3 : zx_vr (some .boolean) S1 h9 nc ns = some (.inr r) := h3
          unfold zx_vr at h3
          split at h3
          · rename_i e1; cases e1
          · cases h3
      · cases h2
    · cases h2
  · rintro ⟨i, w⟩ hm
    obtain ⟨v, h2, rfl⟩ := zx_l_mem.mp hm
    match i, h2 with
    | 0, h2 =>
      cases h2
      show (0, Value.ref (fx 5 0)) ∈ lv_args 0 [Value.ref b]
      rw [hfb]
      exact List.mem_cons_self
    | 1, h2 => cases h2
    | 2, h2 => cases h2
    | 3, h2 => cases h2
    | i + 4, h2 => cases h2
end
