/-! part 53: rules as functions; the class's rules keep to them -/
def zwho (f : zS) (t : Int) : Nat → Nat → Int
  | 0, _ => -1
  | k + 1, i => if zcarryOk f ((t + i) % f 5 6) then (t + i) % f 5 6 else zwho f t k (i + 1)
def zfresh (f : zS) : Nat → Int
  | 0 => -1
  | j + 1 => if zcarryOk f j ∧ (zfresh f j = -1 ∨ f 4 j < f 4 (zfresh f j).toNat) then j else zfresh f j
def zfirst (f : zS) (rule t : Int) : Int := if rule = 0 then zwho f t (f 5 6).toNat 0 else zfresh f (f 5 6).toNat
def zrest (f : zS) (p : Int) : Int := if p = -1 then (if zmay f 6 then 6 else if zmay f 9 then 9 else -1) else p
def zchoose (f : zS) (rule t : Int) : Int := if 2 ≤ rule ∧ zmay f 6 then 6 else if rule = 3 ∧ zmay f 7 then 7 else if rule = 3 ∧ zmay f 8 then 8 else zrest f (zfirst f rule t)
def zturn1 (f : zS) (rule t : Int) : Int := if rule = 0 ∧ ¬ zwho f t (f 5 6).toNat 0 = -1 then zwho f t (f 5 6).toNat 0 else t
abbrev zRS : Type := zS × Int × Int × Int
def znext (s : zRS) (rule a : Int) : zRS := (zact s.1 a, (if ¬ a = 9 ∧ 0 < s.1 5 6 ∧ zact s.1 a 1 (zact s.1 a 5 10 - 1).toNat = 1 then (zturn1 s.1 rule s.2.1 + 1) % s.1 5 6 else zturn1 s.1 rule s.2.1), s.2.2.1 + 1, (if s.2.2.2 < zgr (zact s.1 a) (s.1 5 6).toNat then zgr (zact s.1 a) (s.1 5 6).toNat else s.2.2.2))
def zstp (s : zRS) (rule : Int) : Option zRS := if s.2.2.1 < 60 ∧ s.1 5 10 < s.1 5 5 ∧ ¬ zchoose s.1 rule s.2.1 = -1 then some (znext s rule (zchoose s.1 rule s.2.1)) else none
def zgo (rule : Int) : Nat → zRS → zRS
  | 0, s => s
  | n + 1, s => match zstp s rule with
    | none => s
    | some s' => zgo rule n s'
def zbeg (f : zS) : zRS := (f, 0, 0, zgr f (f 5 6).toNat)
def zRB (s : zRS) : Prop := zB s.1 ∧ (0 ≤ s.2.1 ∧ s.2.1 ≤ 5) ∧ (0 ≤ s.2.2.1 ∧ s.2.2.1 ≤ 60) ∧ 0 ≤ s.2.2.2 ∧ s.2.2.2 ≤ 99
theorem zgr_b {f : zS} (h : zB3 f) : ∀ n, n ≤ 6 → 0 ≤ zgr f n ∧ zgr f n ≤ 99
  | 0, _ => ⟨Int.le_refl 0, (by decide : (0 : Int) ≤ 99)⟩
  | n + 1, hn => by
    have i := zgr_b h n (by omega)
    have b := h n (by omega)
    unfold zgr
    split <;> omega
theorem zact_people {f : zS} {a : Int} : zact f a 5 6 = f 5 6 := by
  unfold zact
  split
  · rfl
  · split
    · rfl
    · split
      · rfl
      · split
        · rfl
        · show zcar2 (zcar1 f a.toNat) 5 6 = _
          rw [zcar2_o (by decide)]
          rfl
theorem zact_furlongs {f : zS} {a : Int} : zact f a 5 5 = f 5 5 := by
  unfold zact
  split
  · rfl
  · split
    · rfl
    · split
      · rfl
      · split
        · rfl
        · show zcar2 (zcar1 f a.toNat) 5 5 = _
          rw [zcar2_o (by decide)]
          rfl
theorem zact_here {f : zS} {a : Int} : zact f a 5 10 = if a = 9 then f 5 10 else f 5 10 + 1 := by
  unfold zact
  split
  · rw [if_neg (c := a = 9) (by omega)]; rfl
  · split
    · rw [if_neg (c := a = 9) (by omega)]; rfl
    · split
      · rw [if_neg (c := a = 9) (by omega)]; rfl
      · split
        · rfl
        · rfl
theorem zcar_may {f : zS} {p : Int} (hB : zB f) (h : zcarryOk f p) : zmay f p := by
  have := hB.1
  have := h.1
  exact Or.inr (Or.inr (Or.inr (Or.inr ⟨by omega, by omega, by omega, by omega, h⟩)))
theorem zwho_ok (f : zS) (t : Int) : ∀ k i, zwho f t k i = -1 ∨ zcarryOk f (zwho f t k i)
  | 0, _ => Or.inl rfl
  | k + 1, i => by
    unfold zwho
    split
    · rename_i h
      exact Or.inr h
    · exact zwho_ok f t k (i + 1)
theorem zfresh_ok (f : zS) : ∀ j, zfresh f j = -1 ∨ zcarryOk f (zfresh f j)
  | 0 => Or.inl rfl
  | j + 1 => by
    unfold zfresh
    split
    · rename_i h
      exact Or.inr h.1
    · exact zfresh_ok f j
theorem zfirst_ok (f : zS) (rule t : Int) : zfirst f rule t = -1 ∨ zcarryOk f (zfirst f rule t) := by
  unfold zfirst
  split
  · exact zwho_ok f t _ _
  · exact zfresh_ok f _
theorem zchoose_may {f : zS} {rule t : Int} (hB : zB f) (h : ¬ zchoose f rule t = -1) : zmay f (zchoose f rule t) := by
  unfold zchoose at h ⊢
  split
  · rename_i g; exact g.2
  · rename_i g1
    rw [if_neg g1] at h
    split
    · rename_i g; exact g.2
    · rename_i g2
      rw [if_neg g2] at h
      split
      · rename_i g; exact g.2
      · rename_i g3
        rw [if_neg g3] at h
        unfold zrest at h ⊢
        split
        · rename_i g4
          rw [if_pos g4] at h
          split
          · rename_i g; exact g
          · rename_i g5
            rw [if_neg g5] at h
            split
            · rename_i g; exact g
            · rename_i g6
              rw [if_neg g6] at h
              exact absurd rfl h
        · rename_i g4
          rcases zfirst_ok f rule t with z | z
          · exact absurd z g4
          · exact zcar_may hB z
theorem zturn1_b {f : zS} {rule t : Int} (hB : zB f) (h : 0 ≤ t ∧ t ≤ 5) : 0 ≤ zturn1 f rule t ∧ zturn1 f rule t ≤ 5 := by
  have b := hB.1
  unfold zturn1
  split
  · rename_i g
    rcases zwho_ok f t (f 5 6).toNat 0 with z | z
    · exact absurd z g.2
    · have := z.1
      omega
  · exact h
theorem zRB_next {s : zRS} {rule a : Int} (h : zRB s) (ha : zmay s.1 a) (hn : s.2.2.1 < 60) : zRB (znext s rule a) := by
  obtain ⟨f, t, n, w⟩ := s
  have hB : zB f := h.1
  have t1 : 0 ≤ t ∧ t ≤ 5 := h.2.1
  have t2 : 0 ≤ n ∧ n ≤ 60 := h.2.2.1
  have t3 : 0 ≤ w ∧ w ≤ 99 := h.2.2.2
  have b := hB.1
  have hB2 := zB_act hB ha
  have g := zgr_b hB2.2.2 (f 5 6).toNat (by omega)
  have q := zturn1_b (rule := rule) hB t1
  have hn' : n < 60 := hn
  refine ⟨hB2, ?_, ?_, ?_⟩
  · show 0 ≤ (if _ then _ else _ : Int) ∧ (if _ then _ else _ : Int) ≤ 5
    split
    · rename_i z
      have p : 0 < f 5 6 := z.2.1
      have m1 := Int.emod_nonneg (zturn1 f rule t + 1) (show f 5 6 ≠ 0 by omega)
      have m2 := Int.emod_lt_of_pos (zturn1 f rule t + 1) p
      show 0 ≤ (zturn1 f rule t + 1) % f 5 6 ∧ (zturn1 f rule t + 1) % f 5 6 ≤ 5
      omega
    · exact q
  · show 0 ≤ n + 1 ∧ n + 1 ≤ 60
    omega
  · show 0 ≤ (if w < zgr (zact f a) (f 5 6).toNat then zgr (zact f a) (f 5 6).toNat else w) ∧ (if w < zgr (zact f a) (f 5 6).toNat then zgr (zact f a) (f 5 6).toNat else w) ≤ 99
    split <;> omega
theorem zRB_stp {s s' : zRS} {rule : Int} (h : zRB s) (e : zstp s rule = some s') : zRB s' := by
  unfold zstp at e
  split at e
  · rename_i g
    cases e
    exact zRB_next h (zchoose_may h.1 g.2.2) g.1
  · cases e
theorem zRB_go {rule : Int} : ∀ (n : Nat) {s : zRS}, zRB s → zRB (zgo rule n s)
  | 0, s, h => h
  | n + 1, s, h => by
    unfold zgo
    split
    · exact h
    · rename_i s' e
      exact zRB_go n (zRB_stp h e)
theorem zRB_beg {f : zS} (h : zB f) : zRB (zbeg f) := by
  have b := h.1
  have g := zgr_b h.2.2 (f 5 6).toNat (by omega)
  exact ⟨h, ⟨Int.le_refl 0, (by decide : (0 : Int) ≤ 5)⟩, ⟨Int.le_refl 0, (by decide : (0 : Int) ≤ 60)⟩, g⟩
def zrs (m : zf_Me) : zRS := (zv 19 3 20 m, (m.1 18 1).toInt, (m.1 18 2).toInt, (m.1 18 3).toInt)
abbrev zfR (m m' : zf_Me) : Prop := zfr (fun a => a = 18 ∨ a = 19 ∨ a = 20) m m'
theorem zd19 : zD 19 3 20 := by decide
theorem zv19_18 {m : zf_Me} {k : Nat} {x : Int32} : zv 19 3 20 (zf_u m 18 k x) = zv 19 3 20 m := zv_fr (zf_u1 (by decide)) (fun a _ _ => zf_u1 (by omega)) (zf_u1 (by decide))
section
variable {m : zf_Me}
theorem zs_12 (hB : zB (zv 19 3 20 m)) {Q : Int32 → zf_Me → Prop} (hq : ∀ x : Int32, x.toInt = zfresh (zv 19 3 20 m) (m.1 3 5).toInt.toNat → Q x m) : wp_12 m Q := by
  have e1 : (1 : Int32).toInt = 1 := rfl
  have e0 : (0 : Int32).toInt = 0 := rfl
  have b := zB_v hB
  have lp : ∀ (n : Nat) (v1 v2 : Int32), 0 ≤ v2.toInt → v2.toInt ≤ (m.1 3 5).toInt → (m.1 3 5).toInt - v2.toInt < n → v1.toInt = zfresh (zv 19 3 20 m) v2.toInt.toNat → wq_12_4 Q n v1 v2 m := by
    intro n
    induction n with
    | zero => intro v1 v2 h0 h1 h2; omega
    | succ n ih =>
      intro v1 v2 h0 h1 h2 h3
      have s := fb_addI (x := v2) (y := 1) (by omega) (by omega)
      have e2 : (v2 + 1).toInt.toNat = v2.toInt.toNat + 1 := by omega
      have ej : ((v2.toInt.toNat : Nat) : Int) = v2.toInt := by omega
      have go : ∀ x : Int32, v2.toInt < (m.1 3 5).toInt → x.toInt = zfresh (zv 19 3 20 m) (v2.toInt.toNat + 1) → wq_12_4 Q n x (v2 + 1) m := fun x hl hx => ih x _ (by omega) (by omega) (by omega) (by rw [e2]; exact hx)
      have st : zfresh (zv 19 3 20 m) (v2.toInt.toNat + 1) = if zcarryOk (zv 19 3 20 m) v2.toInt ∧ (zfresh (zv 19 3 20 m) v2.toInt.toNat = -1 ∨ zv 19 3 20 m 4 v2.toInt.toNat < zv 19 3 20 m 4 (zfresh (zv 19 3 20 m) v2.toInt.toNat).toNat) then v2.toInt else zfresh (zv 19 3 20 m) v2.toInt.toNat := by
        show (if zcarryOk (zv 19 3 20 m) ((v2.toInt.toNat : Nat) : Int) ∧ _ then ((v2.toInt.toNat : Nat) : Int) else _) = _
        rw [ej]
      refine ⟨fun g => hq v1 (by rw [h3, show v2.toInt = (m.1 3 5).toInt by omega]), fun g => zs_53 hB (fun b1 h1b => ⟨fun e => go v1 g ?_, fun e => ⟨fun g2 => go v2 g ?_, fun g2 => ?_⟩⟩)⟩
      · rw [st, if_neg (fun z => by rw [h1b.mpr z.1] at e; cases e), h3]
      · rw [st, if_pos ⟨h1b.mp e, Or.inl (by rw [← h3, g2])⟩]
      · have ok := (zfresh_ok (zv 19 3 20 m) v2.toInt.toNat).resolve_left (fun z => g2 (by rw [h3, z]))
        have hb : 0 ≤ v1.toInt ∧ v1.toInt < (m.1 3 5).toInt := by
          rw [h3]
          exact ok.1
        have a1 : zv 19 3 20 m 4 v2.toInt.toNat = (m.1 20 v2.toInt.toNat).toInt := zN_lt (by omega)
        have a2 : zv 19 3 20 m 4 v1.toInt.toNat = (m.1 20 v1.toInt.toNat).toInt := zN_lt (by omega)
        refine ⟨⟨by omega, by omega⟩, ⟨by omega, by omega⟩, fun g3 => go v1 g ?_, fun g3 => go v2 g ?_⟩
        · rw [st, if_neg (fun z => ?_), h3]
          rcases z.2 with z | z
          · exact g2 (by rw [h3, z])
          · rw [← h3, a1, a2] at z
            omega
        · have lt : zv 19 3 20 m 4 v2.toInt.toNat < zv 19 3 20 m 4 (zfresh (zv 19 3 20 m) v2.toInt.toNat).toNat := by
            rw [← h3, a1, a2]
            omega
          rw [st, if_pos ⟨h1b.mp e, Or.inr lt⟩]
  exact ⟨7, lp 7 (-1) 0 (by omega) (by omega) (by omega) rfl⟩
theorem zs_11 (hB : zB (zv 19 3 20 m)) (ht : 0 ≤ (m.1 18 1).toInt ∧ (m.1 18 1).toInt ≤ 5) {Q : Int32 → zf_Me → Prop} (hq : ∀ (x : Int32) (m' : zf_Me), x.toInt = zwho (zv 19 3 20 m) (m.1 18 1).toInt (m.1 3 5).toInt.toNat 0 → (x.toInt = -1 → m' = m) → (¬ x.toInt = -1 → m' = zf_u m 18 1 x) → Q x m') : wp_11 m Q := by
  have e1 : (1 : Int32).toInt = 1 := rfl
  have e0 : (0 : Int32).toInt = 0 := rfl
  have b := zB_v hB
  have lp : ∀ (n : Nat) (v2 : Int32), 0 ≤ v2.toInt → v2.toInt ≤ (m.1 3 5).toInt → (m.1 3 5).toInt - v2.toInt < n → zwho (zv 19 3 20 m) (m.1 18 1).toInt (m.1 3 5).toInt.toNat 0 = zwho (zv 19 3 20 m) (m.1 18 1).toInt ((m.1 3 5).toInt - v2.toInt).toNat v2.toInt.toNat → wq_11_13 Q n (m.1 3 5) v2 m := by
    intro n
    induction n with
    | zero => intro v2 h0 h1 h2; omega
    | succ n ih =>
      intro v2 h0 h1 h2 h3
      have s := fb_addI (x := v2) (y := 1) (by omega) (by omega)
      have e2 : (v2 + 1).toInt.toNat = v2.toInt.toNat + 1 := by omega
      have s2 := fb_addI (x := m.1 18 1) (y := v2) (by omega) (by omega)
      refine ⟨fun g => hq (-1) m ?_ (fun _ => rfl) (fun z => absurd rfl z), fun g => ⟨by omega, ?_⟩⟩
      · rw [h3, show ((m.1 3 5).toInt - v2.toInt).toNat = 0 by omega]
        rfl
      · have rm := zf_remG (x := m.1 18 1 + v2) (y := m.1 3 5) (by omega) (by omega)
        rw [s2] at rm
        have st : zwho (zv 19 3 20 m) (m.1 18 1).toInt ((m.1 3 5).toInt - v2.toInt).toNat v2.toInt.toNat = if zcarryOk (zv 19 3 20 m) (((m.1 18 1).toInt + v2.toInt) % (m.1 3 5).toInt) then ((m.1 18 1).toInt + v2.toInt) % (m.1 3 5).toInt else zwho (zv 19 3 20 m) (m.1 18 1).toInt ((m.1 3 5).toInt - (v2 + 1).toInt).toNat (v2 + 1).toInt.toNat := by
          rw [show ((m.1 3 5).toInt - v2.toInt).toNat = ((m.1 3 5).toInt - (v2 + 1).toInt).toNat + 1 by omega, e2]
          show (if zcarryOk (zv 19 3 20 m) (((m.1 18 1).toInt + ((v2.toInt.toNat : Nat) : Int)) % (m.1 3 5).toInt) then _ else _) = _
          rw [show ((v2.toInt.toNat : Nat) : Int) = v2.toInt by omega]
          rfl
        refine zs_53 hB (fun b1 hb1 => ⟨fun e => ih _ (by omega) (by omega) (by omega) ?_, fun e m3 q3 => hq _ m3 ?_ (fun z => ?_) (fun _ => q3)⟩)
        · rw [h3, st, if_neg (fun z => by rw [← rm] at z; rw [hb1.mpr z] at e; cases e)]
        · rw [h3, st, if_pos (by rw [← rm]; exact hb1.mp e), rm]
        · have := Int.emod_nonneg ((m.1 18 1).toInt + v2.toInt) (show (m.1 3 5).toInt ≠ 0 by omega)
          rw [rm] at z
          omega
  refine ⟨7, lp 7 0 (by omega) (by omega) (by omega) ?_⟩
  rw [e0, Int.sub_zero]
  rfl
/-- the act that a rule chooses; the turn -/
theorem zs_10 (hB : zB (zv 19 3 20 m)) (ht : 0 ≤ (m.1 18 1).toInt ∧ (m.1 18 1).toInt ≤ 5) {rule : Int32} {Q : Int32 → zf_Me → Prop} (hq : ∀ (x : Int32) (m' : zf_Me), x.toInt = zchoose (zv 19 3 20 m) rule.toInt (m.1 18 1).toInt → zv 19 3 20 m' = zv 19 3 20 m → (m'.1 18 1).toInt = zturn1 (zv 19 3 20 m) rule.toInt (m.1 18 1).toInt → m'.1 18 2 = m.1 18 2 → m'.1 18 3 = m.1 18 3 → zfR m m' → Q x m') : wp_10 rule m Q := by
  have e6 : (6 : Int32).toInt = 6 := rfl
  have e7 : (7 : Int32).toInt = 7 := rfl
  have e8 : (8 : Int32).toInt = 8 := rfl
  have e9 : (9 : Int32).toInt = 9 := rfl
  have en : (-1 : Int32).toInt = -1 := rfl
  -- behind the choice of a person
  have t75 : ∀ (x : Int32) (m' : zf_Me), x.toInt = zfirst (zv 19 3 20 m) rule.toInt (m.1 18 1).toInt → zchoose (zv 19 3 20 m) rule.toInt (m.1 18 1).toInt = zrest (zv 19 3 20 m) (zfirst (zv 19 3 20 m) rule.toInt (m.1 18 1).toInt) → zv 19 3 20 m' = zv 19 3 20 m → (m'.1 18 1).toInt = zturn1 (zv 19 3 20 m) rule.toInt (m.1 18 1).toInt → m'.1 18 2 = m.1 18 2 → m'.1 18 3 = m.1 18 3 → zfR m m' → wq_10_75 rule x m' Q := by
    intro x m' hx hc hz h1 h2 h3 hf
    refine ⟨fun g => ?_, fun g => hq x m' (by rw [hc, hx]; unfold zrest; rw [if_neg (by omega)]) hz h1 h2 h3 hf⟩
    have c : zchoose (zv 19 3 20 m) rule.toInt (m.1 18 1).toInt = if zmay (zv 19 3 20 m) 6 then 6 else if zmay (zv 19 3 20 m) 9 then 9 else -1 := by
      rw [hc]
      unfold zrest
      rw [if_pos (by omega)]
    refine zs_52 (by rw [hz]; exact hB) (fun b1 k1 => ⟨fun e => zs_52 (by rw [hz]; exact hB) (fun b2 k2 => ⟨fun e2 => hq (-1) m' ?_ hz h1 h2 h3 hf, fun e2 => hq 9 m' ?_ hz h1 h2 h3 hf⟩), fun e => hq 6 m' ?_ hz h1 h2 h3 hf⟩)
    · rw [hz] at k1 k2
      rw [c, if_neg (fun z => by rw [k1.mpr z] at e; cases e), if_neg (fun z => by rw [k2.mpr z] at e2; cases e2), en]
    · rw [hz] at k1 k2
      rw [c, if_neg (fun z => by rw [k1.mpr z] at e; cases e), if_pos (show zmay (zv 19 3 20 m) 9 from k2.mp e2), e9]
    · rw [hz] at k1
      rw [c, if_pos (show zmay (zv 19 3 20 m) 6 from k1.mp e), e6]
  have t60 : zchoose (zv 19 3 20 m) rule.toInt (m.1 18 1).toInt = zrest (zv 19 3 20 m) (zfirst (zv 19 3 20 m) rule.toInt (m.1 18 1).toInt) → wq_10_60 rule m Q := by
    intro hc
    refine ⟨fun g => zs_12 hB (fun x hx => t75 x m ?_ hc rfl ?_ rfl rfl zfr_refl), fun g => zs_11 hB ht (fun x m' hx n1 n2 => ?_)⟩
    · rw [hx]
      unfold zfirst
      rw [if_neg g]
      rfl
    · unfold zturn1
      rw [if_neg (fun z => g z.1)]
    · have fx : x.toInt = zfirst (zv 19 3 20 m) rule.toInt (m.1 18 1).toInt := by
        rw [hx]
        unfold zfirst
        rw [if_pos g]
        rfl
      have ft : zturn1 (zv 19 3 20 m) rule.toInt (m.1 18 1).toInt = if x.toInt = -1 then (m.1 18 1).toInt else x.toInt := by
        unfold zturn1
        rw [show zwho (zv 19 3 20 m) (m.1 18 1).toInt (zv 19 3 20 m 5 6).toNat 0 = x.toInt from hx.symm]
        by_cases k : x.toInt = -1
        · rw [if_neg (fun z => z.2 k), if_pos k]
        · rw [if_pos ⟨g, k⟩, if_neg k]
      by_cases k : x.toInt = -1
      · rw [n1 k]
        exact t75 x m fx hc rfl (by rw [ft, if_pos k]) rfl rfl zfr_refl
      · rw [n2 k]
        refine t75 x _ fx hc zv19_18 (by rw [ft, if_neg k, zf_u3]) (zf_u4 (by decide)) (zf_u4 (by decide)) (zfr_u zfr_refl (Or.inl rfl))
  have nt : ∀ {b : Bool} {p : Prop}, (b = true ↔ p) → b = false → ¬ p := fun h e z => by rw [h.mpr z] at e; cases e
  have tu : ¬ rule.toInt = 0 → (m.1 18 1).toInt = zturn1 (zv 19 3 20 m) rule.toInt (m.1 18 1).toInt := fun g => by
    unfold zturn1
    rw [if_neg (fun z => g z.1)]
  have t20 : ¬ (2 ≤ rule.toInt ∧ zmay (zv 19 3 20 m) 6) → wq_10_20 rule m Q := by
    intro n1
    have t40 : ¬ (rule.toInt = 3 ∧ zmay (zv 19 3 20 m) 7) → wq_10_40 rule m Q := by
      intro n2
      refine ⟨fun g => t60 ?_, fun g => zs_52 hB (fun b1 k1 => ⟨fun e => t60 ?_, fun e => hq 8 m ?_ rfl (tu (by omega)) rfl rfl zfr_refl⟩)⟩
      · unfold zchoose
        rw [if_neg n1, if_neg n2, if_neg (fun z => g z.1)]
      · unfold zchoose
        rw [if_neg n1, if_neg n2, if_neg (fun z => nt k1 e z.2)]
      · unfold zchoose
        rw [if_neg n1, if_neg n2, if_pos ⟨g, k1.mp e⟩, e8]
    refine ⟨fun g => t40 (fun z => g z.1), fun g => zs_52 hB (fun b1 k1 => ⟨fun e => t40 (fun z => nt k1 e z.2), fun e => hq 7 m ?_ rfl (tu (by omega)) rfl rfl zfr_refl⟩)⟩
    unfold zchoose
    rw [if_neg n1, if_pos ⟨g, k1.mp e⟩, e7]
  refine ⟨fun g => t20 (fun z => by omega), fun g => zs_52 hB (fun b1 k1 => ⟨fun e => t20 (fun z => nt k1 e z.2), fun e => hq 6 m ?_ rfl (tu (by omega)) rfl rfl zfr_refl⟩)⟩
  unfold zchoose
  rw [if_pos ⟨g, k1.mp e⟩, e6]
end
