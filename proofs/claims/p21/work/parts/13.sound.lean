/-! part 13: ends; every run of the small machine is a contract of the machine -/
section
variable {p : Program} {l : Launch} {e : Env} {R : Room} {s : State} {m : MethodId} {args : Array Value} {below : List Frame} {meth : Method} {c : Code} {Q : State → Prop}
variable {fx : Nat → Nat → Nat} {vq : Value} {ct : Nat → ClassId} {ad : Nat → Nat} {A : Nat → Prop} {sc : zx_Sc} {D : va_G} {t : zx_MT} {d : Nat}
variable {pc nc ns : Nat} {L : List (Option zx_V)} {S : List zx_V} {h : List zx_C} {st : zx_S}
variable {run : Nat → List zx_V → List zx_C → Option zx_R} {rr : zx_R}
theorem zx_i_N {pc : Nat} {L : List (Option zx_V)} {S : List zx_V} {h : List zx_C} {nc ns : Nat} (h1 : zx_N pc L S h nc ns = some (.inr rr)) : False := by
  unfold zx_N at h1
  cases h1
theorem zx_i_ld {ty i n : Nat} (h1 : zx_ld ty i n pc L S h nc ns = some (.inr rr)) : False := by
  unfold zx_ld at h1
  repeat' split at h1
  all_goals first | (cases h1; done) | exact zx_i_N h1
theorem zx_i_sto {ty i n : Nat} (h1 : zx_sto ty i n pc L S h nc ns = some (.inr rr)) : False := by
  unfold zx_sto at h1
  repeat' split at h1
  all_goals first | (cases h1; done) | exact zx_i_N h1
theorem zx_i_stl {i n : Nat} (h1 : zx_stl i n pc L S h nc ns = some (.inr rr)) : False := by
  unfold zx_stl at h1
  repeat' split at h1
  all_goals first | (cases h1; done) | exact zx_i_N h1
theorem zx_i_iinc {i : Nat} {z : Int} (h1 : zx_iinc i z pc L S h nc ns = some (.inr rr)) : False := by
  unfold zx_iinc at h1
  repeat' split at h1
  all_goals first | (cases h1; done) | exact zx_i_N h1
theorem zx_i_bin {ins : Instr} (h1 : zx_bin ins pc L S h nc ns = some (.inr rr)) : False := by
  unfold zx_bin at h1
  repeat' split at h1
  all_goals first | (cases h1; done) | exact zx_i_N h1
theorem zx_i_un {ins : Instr} (h1 : zx_un ins pc L S h nc ns = some (.inr rr)) : False := by
  unfold zx_un at h1
  repeat' split at h1
  all_goals first | (cases h1; done) | exact zx_i_N h1
theorem zx_i_lng {ins : Instr} (h1 : zx_lng ins pc L S h nc ns = some (.inr rr)) : False := by
  unfold zx_lng at h1
  repeat' split at h1
  all_goals first | (cases h1; done) | exact zx_i_N h1
theorem zx_i_stk {ins : Instr} (h1 : zx_stk ins pc L S h nc ns = some (.inr rr)) : False := by
  unfold zx_stk at h1
  repeat' split at h1
  all_goals first | (cases h1; done) | exact zx_i_N h1
theorem zx_i_J {off : Int} (h1 : zx_J pc off L S h nc ns = some (.inr rr)) : False := by
  unfold zx_J at h1
  repeat' split at h1
  all_goals first | (cases h1; done) | exact zx_i_N h1
theorem zx_i_br {b : Bool} {off : Int} (h1 : zx_br b off pc L S h nc ns = some (.inr rr)) : False := by
  unfold zx_br at h1
  repeat' split at h1
  all_goals first | (cases h1; done) | exact zx_i_N h1
theorem zx_i_if1 {cn : ClassFile.Cond} {off : Int} (h1 : zx_if1 cn off pc L S h nc ns = some (.inr rr)) : False := by
  unfold zx_if1 at h1
  repeat' split at h1
  all_goals first | (cases h1; done) | exact zx_i_N h1 | exact zx_i_br h1
theorem zx_i_if2 {cn : ClassFile.Cond} {off : Int} (h1 : zx_if2 cn off pc L S h nc ns = some (.inr rr)) : False := by
  unfold zx_if2 at h1
  repeat' split at h1
  all_goals first | (cases h1; done) | exact zx_i_N h1 | exact zx_i_br h1
theorem zx_i_tsw {dflt lo hi : Int} {offs : Array Int} (h1 : zx_tsw dflt lo hi offs pc L S h nc ns = some (.inr rr)) : False := by
  unfold zx_tsw at h1
  repeat' split at h1
  all_goals first | (cases h1; done) | exact zx_i_N h1 | exact zx_i_J h1
theorem zx_i_lsw {dflt : Int} {ps : Array (Int × Int)} (h1 : zx_lsw dflt ps pc L S h nc ns = some (.inr rr)) : False := by
  unfold zx_lsw at h1
  repeat' split at h1
  all_goals first | (cases h1; done) | exact zx_i_N h1 | exact zx_i_J h1
theorem zx_i_gf {o ix : Nat} (h1 : zx_gf o ix pc L S h nc ns = some (.inr rr)) : False := by
  unfold zx_gf at h1
  repeat' split at h1
  all_goals first | (cases h1; done) | exact zx_i_N h1
theorem zx_i_pf {o kd ix : Nat} (h1 : zx_pf o kd ix pc L S h nc ns = some (.inr rr)) : False := by
  unfold zx_pf at h1
  repeat' split at h1
  all_goals first | (cases h1; done) | exact zx_i_N h1
theorem zx_i_gs {o ix : Nat} (h1 : zx_gs o ix pc L S h nc ns = some (.inr rr)) : False := by
  unfold zx_gs at h1
  repeat' split at h1
  all_goals first | (cases h1; done) | exact zx_i_N h1
theorem zx_i_al  (h1 : zx_al sc pc L S h nc ns = some (.inr rr)) : False := by
  unfold zx_al at h1
  repeat' split at h1
  all_goals first | (cases h1; done) | exact zx_i_N h1
theorem zx_i_ial  (h1 : zx_ial sc pc L S h nc ns = some (.inr rr)) : False := by
  unfold zx_ial at h1
  repeat' split at h1
  all_goals first | (cases h1; done) | exact zx_i_N h1
theorem zx_i_ias  (h1 : zx_ias pc L S h nc ns = some (.inr rr)) : False := by
  unfold zx_ias at h1
  repeat' split at h1
  all_goals first | (cases h1; done) | exact zx_i_N h1
theorem zx_i_lal  (h1 : zx_lal pc L S h nc ns = some (.inr rr)) : False := by
  unfold zx_lal at h1
  repeat' split at h1
  all_goals first | (cases h1; done) | exact zx_i_N h1
theorem zx_i_las  (h1 : zx_las pc L S h nc ns = some (.inr rr)) : False := by
  unfold zx_las at h1
  repeat' split at h1
  all_goals first | (cases h1; done) | exact zx_i_N h1
theorem zx_i_bal  (h1 : zx_bal pc L S h nc ns = some (.inr rr)) : False := by
  unfold zx_bal at h1
  repeat' split at h1
  all_goals first | (cases h1; done) | exact zx_i_N h1
theorem zx_i_aal  (h1 : zx_aal pc L S h nc ns = some (.inr rr)) : False := by
  unfold zx_aal at h1
  repeat' split at h1
  all_goals first | (cases h1; done) | exact zx_i_N h1
theorem zx_i_aas  (h1 : zx_aas pc L S h nc ns = some (.inr rr)) : False := by
  unfold zx_aas at h1
  repeat' split at h1
  all_goals first | (cases h1; done) | exact zx_i_N h1
theorem zx_i_lc {o ix n : Nat} (h1 : zx_lc o ix n pc L S h nc ns = some (.inr rr)) : False := by
  unfold zx_lc at h1
  repeat' split at h1
  all_goals first | (cases h1; done) | exact zx_i_N h1
theorem zx_i_lc2 {o ix : Nat} (h1 : zx_lc2 o ix pc L S h nc ns = some (.inr rr)) : False := by
  unfold zx_lc2 at h1
  repeat' split at h1
  all_goals first | (cases h1; done) | exact zx_i_N h1
theorem zx_i_ac  (h1 : zx_ac pc L S h nc ns = some (.inr rr)) : False := by
  unfold zx_ac at h1
  repeat' split at h1
  all_goals first | (cases h1; done) | exact zx_i_N h1
theorem zx_i_new {o ix : Nat} (h1 : zx_new o ix pc L S h nc ns = some (.inr rr)) : False := by
  unfold zx_new at h1
  repeat' split at h1
  all_goals first | (cases h1; done) | exact zx_i_N h1
theorem zx_i_na {ty : ArrayType} (h1 : zx_na ty pc L S h nc ns = some (.inr rr)) : False := by
  unfold zx_na at h1
  repeat' split at h1
  all_goals first | (cases h1; done) | exact zx_i_N h1
theorem zx_i_an {o ix : Nat} (h1 : zx_an o ix pc L S h nc ns = some (.inr rr)) : False := by
  unfold zx_an at h1
  repeat' split at h1
  all_goals first | (cases h1; done) | exact zx_i_N h1
theorem zx_i_ret {r : List zx_V} {ro : Option zx_R} (h1 : zx_ret pc L r h nc ns ro = some (.inr rr)) : False := by
  unfold zx_ret at h1
  repeat' split at h1
  all_goals first | (cases h1; done) | exact zx_i_N h1
theorem zx_i_iv {o ix : Nat} (h1 : zx_iv run o ix pc L S h nc ns = some (.inr rr)) : False := by
  unfold zx_iv at h1
  repeat' split at h1
  all_goals first | (cases h1; done) | exact zx_i_N h1 | exact zx_i_ret h1
theorem zx_i_is {o ix : Nat} (h1 : zx_is run o ix pc L S h nc ns = some (.inr rr)) : False := by
  unfold zx_is at h1
  repeat' split at h1
  all_goals first | (cases h1; done) | exact zx_i_N h1 | exact zx_i_ret h1 | exact zx_i_ac h1
theorem zx_i_ii {o ix : Nat} (h1 : zx_ii run o ix pc L S h nc ns = some (.inr rr)) : False := by
  unfold zx_ii at h1
  repeat' split at h1
  all_goals first | (cases h1; done) | exact zx_i_N h1 | exact zx_i_ret h1
theorem zx_e_ins {ins : Instr} (h1 : zx_ins sc run t ins pc L S h nc ns = some (.inr rr)) : (ins = .ireturn ∧ zx_ir (zx_mr t) S h nc ns = some (.inr rr)) ∨ (ins = .lreturn ∧ zx_lr (zx_mr t) S h nc ns = some (.inr rr)) ∨ (ins = .areturn ∧ zx_ar (zx_mr t) S h nc ns = some (.inr rr)) ∨ (ins = .return_ ∧ zx_vr (zx_mr t) S h nc ns = some (.inr rr)) := by
  unfold zx_ins at h1
  split at h1
  all_goals first | (cases h1; done) | exact (zx_i_N h1).elim | exact (zx_i_ld h1).elim | exact (zx_i_sto h1).elim | exact (zx_i_stl h1).elim | exact (zx_i_iinc h1).elim | exact (zx_i_bin h1).elim | exact (zx_i_un h1).elim | exact (zx_i_lng h1).elim | exact (zx_i_stk h1).elim | exact (zx_i_J h1).elim | exact (zx_i_if1 h1).elim | exact (zx_i_if2 h1).elim | exact (zx_i_tsw h1).elim | exact (zx_i_lsw h1).elim | exact (zx_i_gf h1).elim | exact (zx_i_pf h1).elim | exact (zx_i_gs h1).elim | exact (zx_i_al h1).elim | exact (zx_i_ial h1).elim | exact (zx_i_ias h1).elim | exact (zx_i_lal h1).elim | exact (zx_i_las h1).elim | exact (zx_i_bal h1).elim | exact (zx_i_aal h1).elim | exact (zx_i_aas h1).elim | exact (zx_i_lc h1).elim | exact (zx_i_lc2 h1).elim | exact (zx_i_new h1).elim | exact (zx_i_na h1).elim | exact (zx_i_an h1).elim | exact (zx_i_iv h1).elim | exact (zx_i_is h1).elim | exact (zx_i_ii h1).elim | exact Or.inl ⟨rfl, h1⟩ | exact Or.inr (Or.inl ⟨rfl, h1⟩) | exact Or.inr (Or.inr (Or.inl ⟨rfl, h1⟩)) | exact Or.inr (Or.inr (Or.inr ⟨rfl, h1⟩))
theorem zx_nr_ok {ty : FieldType} {v : Int32} (h1 : zx_nr ty v = true) : narrow ty (.int v) = .int v := by
  unfold zx_nr at h1
  split at h1
  · rfl
  · have h2 : v = 0 ∨ v = 1 := by simpa using h1
    rcases h2 with rfl | rfl <;> decide
  · have h2 : v.toInt8.toInt32 = v := by simpa using h1
    rw [← h2]
    exact pk_nb v
  · have h2 : (v.toUInt32 % 65536).toInt32 = v := by simpa using h1
    rw [← h2]
    exact pk_nc v
  · cases h1
theorem zx_re {st0 : zx_S} (h1 : zx_stp sc run t st0 = some (.inr rr)) : rr.2.2.1 = st0.2.2.2.2.1 ∧ rr.2.2.2 = st0.2.2.2.2.2 := by
  unfold zx_stp at h1
  split at h1
  · split at h1
    · rcases zx_e_ins h1 with ⟨-, h2⟩ | ⟨-, h2⟩ | ⟨-, h2⟩ | ⟨-, h2⟩
      · unfold zx_ir at h2
        repeat' split at h2
        all_goals first | (cases h2; done) | (cases h2; exact ⟨rfl, rfl⟩)
      · unfold zx_lr at h2
        repeat' split at h2
        all_goals first | (cases h2; done) | (cases h2; exact ⟨rfl, rfl⟩)
      · unfold zx_ar at h2
        repeat' split at h2
        all_goals first | (cases h2; done) | (cases h2; exact ⟨rfl, rfl⟩)
      · unfold zx_vr at h2
        repeat' split at h2
        all_goals first | (cases h2; done) | (cases h2; exact ⟨rfl, rfl⟩)
    · cases h1
  · cases h1
/-- a method's end -/
theorem zx_e_stp {ad0 : Nat → Nat} {h0 : List zx_C} (X : zx_Cx p R s m args meth c fx vq ct A sc D t d) (hr : meth.sig.returnType = zx_mr t) (hlocks : meth.locks = false) {st0 : zx_S} (hx0 : zx_ext ad0 h0 ad st0.2.2.2.1) (h1 : zx_stp sc run t st0 = some (.inr rr)) :
    zx_Go p l e R s m args below meth c (MQ below (zx_Qc fx vq ct A D ad0 h0 rr) args s rr.2.2.1 rr.2.2.2 A) fx vq ct A D t ad st0 := by
  obtain ⟨hx, hb, -⟩ := X
  unfold zx_stp at h1
  split at h1
  · rename_i ins len hdg
    split at h1
    · rename_i hlen
      rcases zx_e_ins h1 with ⟨rfl, h2⟩ | ⟨rfl, h2⟩ | ⟨rfl, h2⟩ | ⟨rfl, h2⟩
      · have e9 : len = 1 := by simpa [zx_lok, zx_len] using hlen
        subst e9
        obtain ⟨pc, L, S, h, nc, ns⟩ := st0
        replace h2 : zx_ir (zx_mr t) S h nc ns = some (.inr rr) := h2
        unfold zx_ir at h2
        split at h2
        · rename_i ty v e1
          split at h2
          · rename_i g
            cases h2
            intro H locs ls hP hD hS hl
            exact W.zret (v := v) hx hb (hr.trans e1) (zx_nr_ok g) (fun u hu hW => ⟨⟨ad, rfl, hx0, by rw [hu]; exact hP, hD⟩, hS.F hu⟩) hS.2.2 hdg hlocks
          · cases h2
        · cases h2
      · have e9 : len = 1 := by simpa [zx_lok, zx_len] using hlen
        subst e9
        obtain ⟨pc, L, S, h, nc, ns⟩ := st0
        replace h2 : zx_lr (zx_mr t) S h nc ns = some (.inr rr) := h2
        unfold zx_lr at h2
        split at h2
        · rename_i v e1
          cases h2
          intro H locs ls hP hD hS hl
          exact W.lret (v := v) hx hb (hr.trans e1) (fun u hu hW => ⟨⟨ad, rfl, hx0, by rw [hu]; exact hP, hD⟩, hS.F hu⟩) hS.2.2 hdg hlocks
        · cases h2
      · have e9 : len = 1 := by simpa [zx_lok, zx_len] using hlen
        subst e9
        obtain ⟨pc, L, S, h, nc, ns⟩ := st0
        replace h2 : zx_ar (zx_mr t) S h nc ns = some (.inr rr) := h2
        unfold zx_ar at h2
        split at h2
        · rename_i cn a e1
          cases h2
          intro H locs ls hP hD hS hl
          exact W.aret (v := .ref (fx 2 a)) hx hb (hr.trans e1) (Or.inl ⟨_, rfl⟩) (Or.inr ⟨_, rfl⟩) (fun u hu hW => ⟨⟨ad, rfl, hx0, by rw [hu]; exact hP, hD⟩, hS.F hu⟩) hS.2.2 hdg hlocks
        · cases h2
      · have e9 : len = 1 := by simpa [zx_lok, zx_len] using hlen
        subst e9
        obtain ⟨pc, L, S, h, nc, ns⟩ := st0
        replace h2 : zx_vr (zx_mr t) S h nc ns = some (.inr rr) := h2
        unfold zx_vr at h2
        split at h2
        · rename_i e1
          cases h2
          intro H locs ls hP hD hS hl
          exact W.vret hx hb (hr.trans e1) (fun u hu hW => ⟨⟨ad, rfl, hx0, by rw [hu]; exact hP, hD⟩, hS.F hu⟩) hS.2.2 hdg hlocks
        · cases h2
    · cases h1
  · cases h1
theorem zx_mono : ∀ (n d : Nat) (sc : zx_Sc) (t : zx_MT) (st0 : zx_S) (r : zx_R), zx_ex n d sc t st0 = some r → st0.2.2.2.2.1 ≤ r.2.2.1 ∧ st0.2.2.2.2.2 ≤ r.2.2.2
  | 0, _, _, _, _, _, h => by unfold zx_ex at h; cases h
  | n + 1, d, sc, t, st0, r, h => by
    unfold zx_ex at h
    split at h
    · rename_i st1 e
      have h1 := zx_nc_stp e
      have h2 := zx_mono n d sc t st1 r h
      exact ⟨Nat.le_trans h1.2.1 h2.1, Nat.le_trans h1.2.2 h2.2⟩
    · rename_i r' e
      cases h
      have h1 := zx_re e
      exact ⟨Nat.le_of_eq h1.1.symm, Nat.le_of_eq h1.2.symm⟩
    · cases h
/-- a run inside a frame -/
theorem zx_exW {N : Nat} (hall : ∀ n, n < N → ∀ (d k : Nat) (as : List zx_V) (h : List zx_C) (r : zx_R) (ad : Nat → Nat), k < 221 → zx_mk (zx_m k) < 3 → zx_run n d k as h = some r → zx_Met l fx vq ct A none D d k as h r ad)
    {ad0 : Nat → Nat} {h0 : List zx_C} (X : zx_Cx p R s m args meth c fx vq ct A sc D t d) (hr : meth.sig.returnType = zx_mr t) (hlocks : meth.locks = false) (hRc : rr.2.2.1 ≤ R.cells ∧ rr.2.2.2 ≤ R.slots) :
    ∀ (n : Nat), n ≤ N → ∀ (st0 : zx_S) (ad : Nat → Nat), zx_ex n d sc t st0 = some rr → st0.2.1.length ≤ zx_mn t → zx_ext ad0 h0 ad st0.2.2.2.1 → zx_Go p l e R s m args below meth c (MQ below (zx_Qc fx vq ct A D ad0 h0 rr) args s rr.2.2.1 rr.2.2.2 A) fx vq ct A D t ad st0 := by
  intro n
  induction n with
  | zero =>
    intro _ st0 ad h1
    unfold zx_ex at h1
    cases h1
  | succ n ih =>
    intro hn st0 ad h1 hLn hx0
    unfold zx_ex at h1
    split at h1
    · rename_i st1 e1
      have hm := zx_mono n d sc t st1 rr h1
      have hn1 := zx_nc_stp e1
      refine zx_s_stp X ?_ hLn e1 ⟨Nat.le_trans hm.1 hRc.1, Nat.le_trans hm.2 hRc.2⟩ (fun ad' hx1 => ih (by omega) st1 ad' h1 (by rw [hn1.1]; exact hLn) (zx_ext_tr hx0 hx1))
      intro k as h' r' ad' hk hk3 hrun
      cases d with
      | zero => cases hrun
      | succ d => exact ⟨d, rfl, hall n (by omega) d k as h' r' ad' hk hk3 hrun⟩
    · rename_i r' e1
      cases h1
      exact zx_e_stp X hr hlocks hx0 e1
    · cases h1
theorem zx_L0_len : ∀ (as : List zx_V) (n : Nat), zx_cs as ≤ n → (zx_L0 n as).length = n
  | [], n, _ => by simp [zx_L0]
  | v :: r, n, h => by
    unfold zx_cs at h
    unfold zx_L0
    by_cases g : zx_c1 v = true
    · rw [if_pos g] at h ⊢
      rw [List.length_cons, zx_L0_len r (n - 1) (by omega)]
      omega
    · rw [if_neg g] at h ⊢
      rw [List.length_cons, List.length_cons, zx_L0_len r (n - 2) (by omega)]
      omega
theorem zx_L0_args (hq : vq = .null ∨ ∃ t, vq = .ref t) : ∀ (as : List zx_V) (n o i : Nat) (v : zx_V), (zx_L0 n as)[i]? = some (some v) → (o + i, zx_c fx vq ad v) ∈ lv_args o (as.map (zx_c fx vq ad))
  | [], n, o, i, v, h => by
    unfold zx_L0 at h
    rw [List.getElem?_replicate] at h
    split at h <;> cases h
  | w :: r, n, o, i, v, h => by
    unfold zx_L0 at h
    show _ ∈ (o, zx_c fx vq ad w) :: lv_args (if (zx_c fx vq ad w).category = 2 then o + 2 else o + 1) (r.map (zx_c fx vq ad))
    by_cases g : zx_c1 w = true
    · rw [if_pos g] at h
      have hc : ¬ (zx_c fx vq ad w).category = 2 := by rw [zx_cat1 hq g]; decide
      rw [if_neg hc]
      cases i with
      | zero =>
        have e : w = v := Option.some.inj (Option.some.inj h)
        rw [e]
        exact List.mem_cons_self
      | succ i =>
        have h2 := zx_L0_args hq r (n - 1) (o + 1) i v h
        rw [show o + (i + 1) = o + 1 + i by omega]
        exact List.mem_cons_of_mem _ h2
    · rw [if_neg g] at h
      rw [if_pos (zx_cat2 hq g)]
      cases i with
      | zero =>
        have e : w = v := Option.some.inj (Option.some.inj h)
        rw [e]
        exact List.mem_cons_self
      | succ i =>
        cases i with
        | zero => cases h
        | succ i =>
          have h2 := zx_L0_args hq r (n - 2) (o + 2) i v h
          rw [show o + (i + 1 + 1) = o + 2 + i by omega]
          exact List.mem_cons_of_mem _ h2
theorem zx_sl_len (hq : vq = .null ∨ ∃ t, vq = .ref t) : ∀ (as : List zx_V), (lg_sl (as.map (zx_c fx vq ad))).length = zx_cs as
  | [] => rfl
  | v :: r => by
    show ((if (zx_c fx vq ad v).category = 2 then [Slot.val (zx_c fx vq ad v), .second] else [Slot.val (zx_c fx vq ad v)]) ++ lg_sl (r.map (zx_c fx vq ad))).length = _
    rw [List.length_append, zx_sl_len hq r, show zx_cs (v :: r) = (if zx_c1 v then 1 else 2) + zx_cs r from rfl]
    by_cases g : zx_c1 v = true
    · rw [if_pos g, if_neg (by rw [zx_cat1 hq g]; decide)]
      rfl
    · rw [if_neg g, if_pos (zx_cat2 hq g)]
      rfl
theorem zx_plain {k : Nat} (hk : k < 221) (hk3 : zx_mk (zx_m k) < 3) : plainName (zx_my (zx_m k)).cls = true := by
  obtain ⟨-, -, -, -, -, -, f0, f1, f2, -, -⟩ := zx_mfacts hk
  rcases (show zx_mk (zx_m k) = 0 ∨ zx_mk (zx_m k) = 1 ∨ zx_mk (zx_m k) = 2 by omega) with g | g | g
  · exact (f0 g).2.2
  · exact (f1 g).2
  · exact (f2 g).2.2.2
/-- THE SMALL MACHINE'S RUNS ARE CONTRACTS -/
theorem zx_sound : ∀ (N d k : Nat) (as : List zx_V) (h : List zx_C) (r : zx_R) (ad : Nat → Nat), k < 221 → zx_mk (zx_m k) < 3 → zx_run N d k as h = some r → zx_Met l fx vq ct A none D d k as h r ad := by
  intro N
  induction N using Nat.strongRecOn with
  | ind N IH =>
    intro d k as h r ad hk hk3 hrun
    unfold zx_run at hrun
    split at hrun
    · rename_i hcs
      unfold zx_Met
      refine Met.ofW (cc := zx_mb (zx_m k)) (maxL := zx_mn (zx_m k)) (ret := zx_mr (zx_m k)) (zx_plain hk hk3) rfl ?_
      intro p e s m args below meth c s₁ B hml hv
      obtain ⟨rfl, hP, hD, hK, hA, hSt⟩ := hv
      have hq := hSt.2.2.2.2.2.2.2.2.1
      have hf := zx_mfacts hk
      have hown : s.vm.findClass (zx_o (zx_mo (zx_m k))) = some m.cls := by rw [hf.2.1]; exact findClass_of_methodNamed B.named
      have hts : ∀ w ∈ zx_G, w.before ((as.map (zx_c fx vq ad)).toArray) s = true := fun w hw => atoms_spec (ws := zx_ws k) B.pre w (List.mem_cons_of_mem _ hw)
      have X : zx_Cx p (headSpec (zx_ws k) (zx_rm d r)).room s m ((as.map (zx_c fx vq ad)).toArray) meth c fx vq ct A none D (zx_m k) d :=
        ⟨B.exec, B.bytes, hml, hown, hts, hK, hA, hSt, ⟨Nat.le_refl _, Nat.le_refl _⟩, fun g => ((name_of_methodNamed B.named B.method).1).trans (hf.2.2.2.2.2.2.2.2.1 g).2.1⟩
      rw [lg_entry_eq]
      have hen := lv_entry (as.map (zx_c fx vq ad)) (n := zx_mn (zx_m k)) (by rw [zx_sl_len hq]; exact hcs)
      refine zx_exW IH X B.returns B.notSynchronized ⟨Nat.le_refl _, Nat.le_refl _⟩ N (Nat.le_refl N) (0, zx_L0 (zx_mn (zx_m k)) as, [], h, 0, 0) ad hrun (Nat.le_of_eq (zx_L0_len as _ hcs)) (zx_ext_sm rfl) s.heap [] _ hP hD va_S.rf (zx_l_sub hen ?_)
      rintro ⟨i, w⟩ hm
      obtain ⟨v, h1, rfl⟩ := zx_l_mem.mp hm
      have h2 := zx_L0_args (fx := fx) (ad := ad) hq as _ 0 i v h1
      rw [Nat.zero_add] at h2
      exact h2
    · cases hrun
end
