/-! part 18: longer runs, deeper runs; runs put together; a state's run with its end (zx_T), a method's (zx_M) -/
section
variable {sc : zx_Sc} {t : zx_MT} {run run' : Nat → List zx_V → List zx_C → Option zx_R} {pc nc ns : Nat} {L : List (Option zx_V)} {S : List zx_V} {h : List zx_C} {x : zx_S ⊕ zx_R}
theorem zx_m_ret (hr : ∀ k as h r, run k as h = some r → run' k as h = some r) {k : Nat} {as r : List zx_V} {h2 : List zx_C} (h1 : zx_ret pc L r h nc ns (run k as h2) = some x) : zx_ret pc L r h nc ns (run' k as h2) = some x := by
  cases e : run k as h2 with
  | none => rw [e] at h1; cases h1
  | some q => rw [hr _ _ _ _ e]; rw [e] at h1; exact h1
theorem zx_m_iv (hr : ∀ k as h r, run k as h = some r → run' k as h = some r) {o ix : Nat} : zx_iv run o ix pc L S h nc ns = some x → zx_iv run' o ix pc L S h nc ns = some x := by
  unfold zx_iv
  cases e0 : zx_lk zx_lM o ix with
  | none => exact id
  | some q =>
    obtain ⟨k, np⟩ := q
    show (if _ then _ else none) = some x → (if _ then _ else none) = some x
    by_cases g : zx_mk (zx_m k) = 0 ∧ k < 221
    · rw [if_pos g, if_pos g]
      cases e1 : S.drop (zx_mp (zx_m k)) with
      | nil => exact id
      | cons v r =>
        rcases v with y | y | ⟨tg, a⟩
        · exact id
        · exact id
        · match tg with
          | 0 => exact id
          | 1 =>
            cases e2 : h[a]? with
            | none => intro h1; simp only [e2] at h1; cases h1
            | some c =>
              rcases c with ⟨ci, fs⟩ | c
              · simp only [e2]
                by_cases g2 : ci = zx_mo (zx_m k) ∧ ci < 9 ∧ zx_cs r ≤ 8 ∧ zx_mp (zx_m k) ≤ S.length
                · rw [if_pos g2, if_pos g2]
                  exact zx_m_ret hr
                · rw [if_neg g2, if_neg g2]
                  exact id
              · intro h1; simp only [e2] at h1; cases h1
          | 2 =>
            show (if _ then _ else none) = some x → (if _ then _ else none) = some x
            by_cases g2 : a < 12 ∧ zx_mo (zx_m k) = 11 ∧ zx_cs r ≤ 8 ∧ zx_mp (zx_m k) ≤ S.length
            · rw [if_pos g2, if_pos g2]
              exact zx_m_ret hr
            · rw [if_neg g2, if_neg g2]
              exact id
          | n + 3 => exact id
    · rw [if_neg g, if_neg g]
      exact id
theorem zx_m_is (hr : ∀ k as h r, run k as h = some r → run' k as h = some r) {o ix : Nat} : zx_is run o ix pc L S h nc ns = some x → zx_is run' o ix pc L S h nc ns = some x := by
  unfold zx_is
  cases e0 : zx_lk zx_lM o ix with
  | none => exact id
  | some q =>
    obtain ⟨k, np⟩ := q
    show (if _ then _ else _) = some x → (if _ then _ else _) = some x
    by_cases g : zx_mk (zx_m k) = 1 ∧ k < 221 ∧ zx_cs (S.drop (zx_mp (zx_m k))) ≤ 8 ∧ zx_mp (zx_m k) ≤ S.length
    · rw [if_pos g, if_pos g]
      exact zx_m_ret hr
    · rw [if_neg g, if_neg g]
      exact id
theorem zx_m_ii (hr : ∀ k as h r, run k as h = some r → run' k as h = some r) {o ix : Nat} : zx_ii run o ix pc L S h nc ns = some x → zx_ii run' o ix pc L S h nc ns = some x := by
  unfold zx_ii
  cases e0 : zx_lk zx_lM o ix with
  | none => exact id
  | some q =>
    obtain ⟨k, np⟩ := q
    show (if _ then _ else none) = some x → (if _ then _ else none) = some x
    by_cases g : zx_mk (zx_m k) = 2 ∧ k < 221
    · rw [if_pos g, if_pos g]
      cases e1 : S.drop (zx_mp (zx_m k)) with
      | nil => exact id
      | cons v r =>
        rcases v with y | y | ⟨tg, a⟩
        · exact id
        · exact id
        · match tg with
          | 0 => exact id
          | 1 =>
            show (if _ then _ else none) = some x → (if _ then _ else none) = some x
            by_cases g2 : zx_cs r ≤ 8 ∧ zx_mp (zx_m k) ≤ S.length
            · rw [if_pos g2, if_pos g2]
              exact zx_m_ret hr
            · rw [if_neg g2, if_neg g2]
              exact id
          | n + 2 => exact id
    · rw [if_neg g, if_neg g]
      exact id
theorem zx_m_ins (hr : ∀ k as h r, run k as h = some r → run' k as h = some r) {ins : Instr} (h1 : zx_ins sc run t ins pc L S h nc ns = some x) : zx_ins sc run' t ins pc L S h nc ns = some x := by
  cases ins
  case invokevirtual ix => exact zx_m_iv hr h1
  case invokestatic ix => exact zx_m_is hr h1
  case invokespecial ix => exact zx_m_ii hr h1
  all_goals exact h1
theorem zx_m_stp (hr : ∀ k as h r, run k as h = some r → run' k as h = some r) {st : zx_S} (h1 : zx_stp sc run t st = some x) : zx_stp sc run' t st = some x := by
  unfold zx_stp at h1 ⊢
  cases e : decode (zx_mb t) st.1 with
  | error z => rw [e] at h1; cases h1
  | ok q =>
    obtain ⟨ins, len⟩ := q
    rw [e] at h1
    replace h1 : (if zx_lok ins len = true then zx_ins sc run t ins st.1 st.2.1 st.2.2.1 st.2.2.2.1 st.2.2.2.2.1 st.2.2.2.2.2 else none) = some x := h1
    show (if zx_lok ins len = true then zx_ins sc run' t ins st.1 st.2.1 st.2.2.1 st.2.2.2.1 st.2.2.2.2.1 st.2.2.2.2.2 else none) = some x
    by_cases g : zx_lok ins len = true
    · rw [if_pos g] at h1 ⊢
      exact zx_m_ins hr h1
    · rw [if_neg g] at h1
      cases h1
end
def zx_rr (n d : Nat) : Nat → List zx_V → List zx_C → Option zx_R := fun k as h => match d with
  | 0 => none
  | d + 1 => if zx_cs as ≤ zx_mn (zx_m k) then zx_ex n d none (zx_m k) (0, zx_L0 (zx_mn (zx_m k)) as, [], h, 0, 0) else none
theorem zx_ex_succ (n d : Nat) (sc : zx_Sc) (t : zx_MT) (st : zx_S) : zx_ex (n + 1) d sc t st = match zx_stp sc (zx_rr n d) t st with
    | some (.inl st') => zx_ex n d sc t st'
    | some (.inr r) => some r
    | none => none := by
  conv => lhs; unfold zx_ex
  rfl
theorem zx_ex_mono : ∀ (n m d e : Nat) (sc : zx_Sc) (t : zx_MT) (st : zx_S) (r : zx_R), n ≤ m → d ≤ e → zx_ex n d sc t st = some r → zx_ex m e sc t st = some r := by
  intro n
  induction n with
  | zero => intro m d e sc t st r _ _ h; cases h
  | succ n ih =>
    intro m d e sc t st r hm hd h
    obtain ⟨m, rfl⟩ : ∃ q, m = q + 1 := ⟨m - 1, by omega⟩
    rw [zx_ex_succ] at h ⊢
    have hr : ∀ k as h r, zx_rr n d k as h = some r → zx_rr m e k as h = some r := by
      intro k as h' r' h1
      unfold zx_rr at h1 ⊢
      cases d with
      | zero => cases h1
      | succ d =>
        obtain ⟨e, rfl⟩ : ∃ q, e = q + 1 := ⟨e - 1, by omega⟩
        simp only at h1 ⊢
        split at h1
        · rename_i g
          rw [if_pos g]
          exact ih m d e none _ _ _ (by omega) (by omega) h1
        · cases h1
    split at h
    · rename_i st' e1
      rw [zx_m_stp hr e1]
      exact ih m d e sc t st' r (by omega) hd h
    · rename_i r' e1
      rw [zx_m_stp hr e1]
      exact h
    · cases h
/-- a run to an end -/
def zx_Rn (sc : zx_Sc) (d : Nat) (t : zx_MT) (st : zx_S) (r : zx_R) : Prop := ∃ n, zx_ex n d sc t st = some r
theorem zx_rr_mono {n m d e k : Nat} {as : List zx_V} {h : List zx_C} {r : zx_R} (hn : n ≤ m) (hd : d ≤ e) (h1 : zx_rr n d k as h = some r) : zx_rr m e k as h = some r := by
  unfold zx_rr at h1 ⊢
  cases d with
  | zero => cases h1
  | succ d =>
    obtain ⟨e, rfl⟩ : ∃ q, e = q + 1 := ⟨e - 1, by omega⟩
    simp only at h1 ⊢
    split at h1
    · rename_i g
      rw [if_pos g]
      exact zx_ex_mono n m d e none _ _ _ hn (by omega) h1
    · cases h1
theorem zx_Rn_step {sc : zx_Sc} {d N : Nat} {t : zx_MT} {st st' : zx_S} {r : zx_R} (h1 : zx_stp sc (zx_rr N d) t st = some (.inl st')) (h2 : zx_Rn sc d t st' r) : zx_Rn sc d t st r := by
  obtain ⟨n, hn⟩ := h2
  refine ⟨max n N + 1, ?_⟩
  rw [zx_ex_succ, zx_m_stp (fun _ _ _ _ q => zx_rr_mono (Nat.le_max_right n N) (Nat.le_refl d) q) h1]
  exact zx_ex_mono n _ d d sc t st' r (Nat.le_max_left n N) (Nat.le_refl _) hn
theorem zx_Rn_end {sc : zx_Sc} {d N : Nat} {t : zx_MT} {st : zx_S} {r : zx_R} (h1 : zx_stp sc (zx_rr N d) t st = some (.inr r)) : zx_Rn sc d t st r := by
  refine ⟨N + 1, ?_⟩
  rw [zx_ex_succ, h1]
theorem zx_it_run {t : zx_MT} : ∀ (n : Nat) {st st' : zx_S} {r : zx_R}, zx_it t n st = some st' → zx_Rn none 21 t st' r → zx_Rn none 21 t st r
  | 0, st, st', r, h, k => by
    cases h
    exact k
  | n + 1, st, st', r, h, k => by
    unfold zx_it at h
    split at h
    · rename_i st1 e
      have e2 : zx_stp none (zx_rr 300 21) t st = some (.inl st1) := e
      exact zx_Rn_step e2 (zx_it_run n h k)
    · cases h
theorem zx_it_seq {t : zx_MT} {n : Nat} {st st' : zx_S} {r : zx_R} (h : zx_seq (zx_it t n st) st' = true) (k : zx_Rn none 21 t st' r) : zx_Rn none 21 t st r := zx_it_run n (zx_seq_ok h) k
/-- the state's run ends, as many cells there as before, with Q of its answer and its cells -/
def zx_W (sc : zx_Sc) (nc ns d : Nat) (t : zx_MT) (pc : Nat) (L : List (Option zx_V)) (S : List zx_V) (h : List zx_C) (Q : Option zx_V → List zx_C → Prop) : Prop := ∃ (v : Option zx_V) (h' : List zx_C), zx_Rn sc d t (pc, L, S, h, nc, ns) (v, h', nc, ns) ∧ h'.length = h.length ∧ Q v h'
def zx_M (d k : Nat) (as : List zx_V) (h : List zx_C) (Q : Option zx_V → List zx_C → Prop) : Prop := ∃ (v : Option zx_V) (h' : List zx_C), (∃ n, zx_run n d k as h = some (v, h', 0, 0)) ∧ h'.length = h.length ∧ Q v h'
theorem zx_M_of {d k : Nat} {as : List zx_V} {h : List zx_C} {Q : Option zx_V → List zx_C → Prop} (hc : zx_cs as ≤ zx_mn (zx_m k)) {t : zx_MT} (ht : zx_m k = t) {L : List (Option zx_V)} (hL : zx_L0 (zx_mn t) as = L) (h1 : zx_W none 0 0 d t 0 L [] h Q) : zx_M d k as h Q := by
  subst ht hL
  obtain ⟨v, h', ⟨n, hn⟩, hl, hq⟩ := h1
  refine ⟨v, h', ⟨n, ?_⟩, hl, hq⟩
  unfold zx_run
  rw [if_pos hc]
  exact hn
theorem zx_M_cons {d k : Nat} {as : List zx_V} {h : List zx_C} {Q Q' : Option zx_V → List zx_C → Prop} (h1 : zx_M d k as h Q) (hq : ∀ v h', h'.length = h.length → Q v h' → Q' v h') : zx_M d k as h Q' := by
  obtain ⟨v, h', a, b, c⟩ := h1
  exact ⟨v, h', a, b, hq v h' b c⟩
section
variable {sc : zx_Sc} {d nc ns : Nat} {t : zx_MT} {pc pc' : Nat} {L L' : List (Option zx_V)} {S S' : List zx_V} {h h' : List zx_C} {Q : Option zx_V → List zx_C → Prop}
theorem zx_W_stp {N : Nat} (h1 : zx_stp sc (zx_rr N d) t (pc, L, S, h, nc, ns) = some (.inl (pc', L', S', h', nc, ns))) (hl : h'.length = h.length) (k : zx_W sc nc ns d t pc' L' S' h' Q) : zx_W sc nc ns d t pc L S h Q := by
  obtain ⟨v, h2, a, b, c⟩ := k
  exact ⟨v, h2, zx_Rn_step h1 a, b.trans hl, c⟩
theorem zx_stp_ins {run : Nat → List zx_V → List zx_C → Option zx_R} {ins : Instr} {len : Nat} {st : zx_S} (hdg : decode (zx_mb t) st.1 = .ok (ins, len)) (hlen : zx_lok ins len = true) : zx_stp sc run t st = zx_ins sc run t ins st.1 st.2.1 st.2.2.1 st.2.2.2.1 st.2.2.2.2.1 st.2.2.2.2.2 := by
  unfold zx_stp
  simp only [hdg]
  rw [if_pos hlen]
/-- a step that calls nobody -/
theorem zx_W_ins {ins : Instr} {len : Nat} (hdg : decode (zx_mb t) pc = .ok (ins, len)) (hlen : zx_lok ins len = true) (h1 : ∀ run, zx_ins sc run t ins pc L S h nc ns = some (.inl (pc', L', S', h', nc, ns))) (hl : h'.length = h.length) (k : zx_W sc nc ns d t pc' L' S' h' Q) : zx_W sc nc ns d t pc L S h Q :=
  zx_W_stp (N := 0) ((zx_stp_ins (st := (pc, L, S, h, nc, ns)) (run := zx_rr 0 d) (sc := sc) hdg hlen).trans (h1 (zx_rr 0 d))) hl k
/-- an end -/
theorem zx_W_end {ins : Instr} {len : Nat} {v : Option zx_V} (hdg : decode (zx_mb t) pc = .ok (ins, len)) (hlen : zx_lok ins len = true) (h1 : ∀ run, zx_ins sc run t ins pc L S h nc ns = some (.inr (v, h, nc, ns))) (q : Q v h) : zx_W sc nc ns d t pc L S h Q :=
  ⟨v, h, zx_Rn_end (N := 0) ((zx_stp_ins (st := (pc, L, S, h, nc, ns)) (run := zx_rr 0 d) (sc := sc) hdg hlen).trans (h1 (zx_rr 0 d))), rfl, q⟩
theorem zx_rr_run {n k : Nat} {as : List zx_V} {r : zx_R} (h1 : zx_run n d k as h = some r) : zx_rr n (d + 1) k as h = some r := h1
/-- a call: the callee's end, then the caller's run -/
theorem zx_W_call {ins : Instr} {k : Nat} {as r : List zx_V} (hdg : decode (zx_mb t) pc = .ok (ins, 3)) (hlen : zx_lok ins 3 = true) (h1 : ∀ run, zx_ins sc run t ins pc L S h nc ns = zx_ret pc L r h nc ns (run k as h))
    (hM : zx_M d k as h (fun v h' => h'.length = h.length → zx_W sc nc ns (d + 1) t (pc + 3) L (v.toList ++ r) h' Q)) : zx_W sc nc ns (d + 1) t pc L S h Q := by
  obtain ⟨v, h', ⟨n, hn⟩, hl, k2⟩ := hM
  refine zx_W_stp (N := n) (pc' := pc + 3) (L' := L) (S' := v.toList ++ r) (h' := h') ?_ hl (k2 hl)
  refine (zx_stp_ins (st := (pc, L, S, h, nc, ns)) (run := zx_rr n (d + 1)) (sc := sc) hdg hlen).trans ?_
  show zx_ins sc (zx_rr n (d + 1)) t ins pc L S h nc ns = _
  rw [h1, zx_rr_run hn]
  unfold zx_ret
  simp only
  rw [if_pos (Or.inl hl)]
  rfl
end
