/-! part 15: the law: a run of the small machine that answers 1 closes it (the rows ahead of zx_tl are the kit's skeleton) -/
/-! THE CLAIM OUT OF ONE WALK OF THE LAW'S BODY. Your part is whole_start (and what it stands on); all else here is the same for every law, but numbers. -/
def R_law : String := "CarriedAsFarAsTheStileLaw"
def lw_P (b : Addr) (xs : List Int32) (args : Array Value) (s : State) : Prop := args = #[.ref b] ∧ s.IntsAt b xs ∧ xs.length ≤ 3072 ∧ (Jvm.Cond.and given_1 narrow_1).before args s = true
def lw_Q (_ : Array Value) (s : State) (o : Outcome) (t : State) : Prop := o = .returned (some (.int 1)) ∧ Framed s o t [] 600000 7302250
def lw_Z (below : List Frame) (a : Array Value) (s : State) : State → Prop := fun t => ∃ o, t.status = .running ∧ Ended t below o ∧ lw_Q a s o t
/-- the law's own end, with 1 on the stack, nothing written that was there before, its room as the claim has it -/
theorem lw_ret {p : Program} {l : Launch} {e : Env} {s : State} {m : MethodId} {below : List Frame} {meth : Method} {c : Code} {b : Nat} (hx : p.tables.exec = Jvm.exec) (hb : c.code = code) (hr : meth.sig.returnType = ret) (hlocks : meth.locks = false) {pc : Nat} {H : Heap} {ls : Array Slot} (hdg : decode code pc = .ok (.ireturn, 1)) : W p l e room_1 s m #[Value.ref b] below meth c H [] 600000 7302250 (lw_Z below #[Value.ref b] s) (F0 m pc ls [.int 1]) := by
  intro T hT X
  obtain ⟨fs, hret, hrun, hended, hW, hframe⟩ := X.leave (v := some (.int 1)) (hlocks := hlocks) (fun h => by rw [hr] at h; cases h)
  have hmeth' : T.vm.method? m = some meth := X.method'
  refine ⟨T.setFrames fs, ?_, .returned (some (.int 1)), hrun, hended, rfl, ⟨_, rfl⟩, hW, hframe⟩
  jvm_step X.here [X.here.top, hx, hb, hdg, hmeth', hr, ret, narrow_b1]
  (try refine ⟨rfl, ?_⟩); (try refine ⟨rfl, ?_⟩)
  first | (intro acts; rw [hret _ acts rfl rfl rfl]) | rw [hret _ _ rfl rfl rfl]
  exact Steps.refl _
/-- what holds at the law's entry: the machine, the code, the tables' words (any of lw_tbl by 'hts w (by decide +kernel)'), the script of L ints xs at the cell b, what the Statement gives of the start (any of its parts by flat_of_before) -/
def lw_At (p : Program) (s : State) (m : MethodId) (meth : Method) (c : Code) (b L : Nat) (xs : Nat → Int32) : Prop :=
  p.tables.exec = Jvm.exec ∧ c.code = code ∧ meth.sig.returnType = ret ∧ c.maxLocals = 4 ∧ s.vm.findClass R_law = some m.cls ∧ (∀ w ∈ lw_tbl, w.before #[Value.ref b] s = true) ∧ va_X b L xs s s.heap ∧ b < s.heap.size ∧ meth.locks = false ∧ (Jvm.Cond.and given_1 narrow_1).before #[Value.ref b] s = true
def zx_tl : zx_MT := (14, x, code, 4, some .boolean, 1, 1)
def zx_sl0 : zx_S := (0, [some (.inr (.inr (5, 0))), none, none, none], [], [], 0, 0)
section
variable {p : Program} {l : Launch} {e : Env} {R : Room} {s : State} {m : MethodId} {args : Array Value} {below : List Frame} {meth : Method} {c : Code} {Q : State → Prop}
variable {fx : Nat → Nat → Nat} {vq : Value} {ct : Nat → ClassId} {ad : Nat → Nat} {A : Nat → Prop} {sc : zx_Sc} {D : va_G} {t : zx_MT} {d : Nat}
variable {pc nc ns : Nat} {L : List (Option zx_V)} {S : List zx_V} {h : List zx_C} {st : zx_S}
variable {rr : zx_R}
theorem zx_exQ {N : Nat} (X : zx_Cx p R s m args meth c fx vq ct A sc D t d) (hRc : rr.2.2.1 ≤ R.cells ∧ rr.2.2.2 ≤ R.slots)
    (kend : ∀ (st1 : zx_S) (ad1 : Nat → Nat), zx_stp sc (fun k as h => match N with | 0 => none | _ => none) t st1 = some (.inr rr) ∨ (∃ run, zx_stp sc run t st1 = some (.inr rr)) → zx_Go p l e R s m args below meth c Q fx vq ct A D t ad1 st1) :
    ∀ (n : Nat) (st0 : zx_S) (ad : Nat → Nat), zx_ex n d sc t st0 = some rr → st0.2.1.length ≤ zx_mn t → zx_Go p l e R s m args below meth c Q fx vq ct A D t ad st0 := by
  intro n
  induction n with
  | zero =>
    intro st0 ad h1
    unfold zx_ex at h1
    cases h1
  | succ n ih =>
    intro st0 ad h1 hLn
    unfold zx_ex at h1
    split at h1
    · rename_i st1 e1
      have hm := zx_mono n d sc t st1 rr h1
      have hn1 := zx_nc_stp e1
      refine zx_s_stp X ?_ hLn e1 ⟨Nat.le_trans hm.1 hRc.1, Nat.le_trans hm.2 hRc.2⟩ (fun ad' hx1 => ih st1 ad' h1 (by rw [hn1.1]; exact hLn))
      intro k as h' r' ad' hk hk3 hrun
      cases d with
      | zero => cases hrun
      | succ d => exact ⟨d, rfl, zx_sound n d k as h' r' ad' hk hk3 hrun⟩
    · rename_i r' e1
      cases h1
      exact kend st0 ad (Or.inr ⟨_, e1⟩)
    · cases h1
end
theorem zx_whole {p : Program} {e : Env} {s : State} {m : MethodId} {below : List Frame} {meth : Method} {c : Code} (l : Launch) {b L : Nat} {xs : Nat → Int32}
    (hrun : ∃ (n : Nat) (r : zx_R), zx_ex n 200 (some (L, xs)) zx_tl zx_sl0 = some r ∧ r.1 = some (.inl 1) ∧ r.2.2.1 ≤ 600000 ∧ r.2.2.2 ≤ 7302250) (C0 : lw_At p s m meth c b L xs) : W p l e room_1 s m #[Value.ref b] below meth c s.heap [] 0 0 (lw_Z below #[Value.ref b] s) (entryFrame m ([Value.ref b] : List Value).toArray 4) := by
  obtain ⟨hx, hb, hr, hml, hown, hts, hX, hbl, hlocks, hgv⟩ := C0
  obtain ⟨n, r, hex, h1, hc1, hc2⟩ := hrun
  have hf : ∀ w ∈ zx_fl, w.before #[Value.ref b] s = true := flat_of_before _ hgv
  obtain ⟨fx, vq, ct, D, hfb, hSt, hK⟩ := zx_start (args := #[Value.ref b]) hf hts hX hbl
  have hq := hSt.2.2.2.2.2.2.2.2.1
  have X : zx_Cx p room_1 s m #[Value.ref b] meth c fx vq ct (fun q : Nat => s.heap.size ≤ q) (some (L, xs)) D zx_tl 200 :=
    ⟨hx, hb, hml, hown, fun w hw => hts w (List.mem_filter.mp hw).1, hK, fun _ h => h, hSt, ⟨by decide, by decide⟩, fun g => by cases g⟩
  have hen := lv_entry ([.ref b]) (n := 4) (Nat.le_of_ble_eq_true rfl)
  rw [lg_entry_eq]
  refine zx_exQ (N := 0) X ⟨hc1, hc2⟩ ?_ n zx_sl0 (fun _ => 0) hex (by decide) s.heap [] _ (fun k q h => by simp [zx_w, zx_sl0] at h) ⟨fun i j p q h => by simp [zx_w, zx_sl0] at h, fun k q h => by simp [zx_w, zx_sl0] at h⟩ va_S.rf (zx_l_sub hen ?_)
  · intro st1 ad1 hs
    have hs2 : ∃ run, zx_stp (some (L, xs)) run zx_tl st1 = some (.inr r) := by
      rcases hs with h | h
      · exact ⟨_, h⟩
      · exact h
    obtain ⟨run, h2⟩ := hs2
    unfold zx_stp at h2
    split at h2
    · rename_i ins len hdg
      split at h2
      · rename_i hlen
        obtain ⟨pc, L1, S1, h9, nc, ns⟩ := st1
        rcases zx_e_ins h2 with ⟨rfl, h3⟩ | ⟨rfl, h3⟩ | ⟨rfl, h3⟩ | ⟨rfl, h3⟩
        · have e9 : len = 1 := by simpa [zx_lok, zx_len] using hlen
          subst e9
          replace h3 : zx_ir (some .boolean) S1 h9 nc ns = some (.inr r) := h3
          unfold zx_ir at h3
          split at h3
          · rename_i ty v e1
            split at h3
            · cases h3
              have hv : v = 1 := by
                have h4 : (some (Sum.inl v) : Option zx_V) = some (.inl 1) := h1
                exact Sum.inl.inj (Option.some.inj h4)
              subst hv
              intro H locs ls hP hD hS hl
              refine va_forget (fun q hq => hS.2.2 q hq) ?_
              refine W.widen (k := 600000) (n := 7302250) hc1 hc2 ?_
              exact lw_ret hx hb hr hlocks hdg
            · cases h3
          · cases h3
        · exfalso
          replace h3 : zx_lr (some .boolean) S1 h9 nc ns = some (.inr r) := h3
          unfold zx_lr at h3
          split at h3
          · rename_i e1; cases e1
          · cases h3
        · exfalso
          replace h3 : zx_ar (some .boolean) S1 h9 nc ns = some (.inr r) := h3
          unfold zx_ar at h3
          split at h3
          · rename_i e1; cases e1
          · cases h3
        · exfalso
          replace h3 : zx_vr (some .boolean) S1 h9 nc ns = some (.inr r) := h3
          unfold zx_vr at h3
          split at h3
          · rename_i e1; cases e1
          · cases h3
      · cases h2
    · cases h2
  · rintro ⟨i, w⟩ hm
    obtain ⟨v, h2, rfl⟩ := zx_l_mem.mp hm
    match i, h2 with
    | 0, h2 =>
      cases h2
      show (0, Value.ref (fx 5 0)) ∈ lv_args 0 [Value.ref b]
      rw [hfb]
      exact List.mem_cons_self
    | 1, h2 => cases h2
    | 2, h2 => cases h2
    | 3, h2 => cases h2
    | i + 4, h2 => cases h2
