/-! part 68: the reference reads a way told in words -/
theorem zB_stile {f : zS} {k : Nat} {x : Int} (h : zB f) (hx : 0 ≤ x ∧ x ≤ 1) : zB (zU f 1 k x) := by
  refine ⟨h.1, fun j hj => ?_, fun j hj => ?_⟩
  · have b := h.2.1 j hj
    rw [zU_o (by omega)]
    by_cases e : j = k
    · rw [e, zU_s]
      rw [e] at b
      omega
    · rw [zU_o (by omega)]
      exact b
  · have b := h.2.2 j hj
    rw [zU_o (by omega), zU_o (by omega), zU_o (by omega)]
    exact b
abbrev zwa (k : Nat) : Int := (zwl.getD k 0).toInt
def zsl : List Nat := [0, 4, 10, 16, 24, 31, 36, 42, 47, 53, 63, 70, 75]
abbrev zst (k : Nat) : Nat := zsl.getD k 0
theorem zw_i0 : ∀ k, k < 12 → ∀ v, v < 75 → (zst k ≤ v ∧ v < zst (k + 1) ∧ zwa v = 0 → v + 1 = zst (k + 1)) := by decide +kernel
theorem zw_i1 : ∀ k, k < 12 → ∀ v, v < 75 → (zst k ≤ v ∧ v < zst (k + 1) ∧ ¬ zwa v = 0 → v + 1 < zst (k + 1)) := by decide +kernel
theorem zw_in (k : Nat) (hk : k < 12) (v : Nat) (hv : v < 75) (h1 : zst k ≤ v) (h2 : v < zst (k + 1)) : (zwa v = 0 → v + 1 = zst (k + 1)) ∧ (¬ zwa v = 0 → v + 1 < zst (k + 1)) := ⟨fun z => zw_i0 k hk v hv ⟨h1, h2, z⟩, fun z => zw_i1 k hk v hv ⟨h1, h2, z⟩⟩
theorem zw_st : ∀ k, k < 12 → zst k < zst (k + 1) ∧ zst (k + 1) ≤ 75 := by decide
theorem zw_nl : ∀ k, k < 12 → 0 ≤ (znl.getD k 0).toInt ∧ (znl.getD k 0).toInt ≤ 2 := by decide
theorem zw_n2 : ∀ k, k < 12 → 6 ≤ k → (znl.getD k 0).toInt = 1 := by decide
abbrev zpt (m : zf_Me) : Prop := (0 ≤ (m.1 63 29).toInt ∧ (m.1 63 29).toInt ≤ 1120) ∧ 0 ≤ (m.1 63 30).toInt ∧ (m.1 63 30).toInt ≤ (m.1 63 31).toInt ∧ (m.1 63 31).toInt ≤ 160
def zPt (m : zf_Me) : Prop := zpt m ∧ zB (zr m) ∧ zwd m
abbrev zcoN (a k : Nat) : Prop := (a = 63 ∧ (k = 30 ∨ k = 32 ∨ k = 33)) ∨ a = 78
abbrev zgN (m m' : zf_Me) : Prop := zgr' zcoN m m'
def zPn (m m' : zf_Me) : Prop := zgN m m' ∧ zpt m' ∧ (m.1 63 30).toInt ≤ (m'.1 63 30).toInt
abbrev zcoP (a k : Nat) : Prop := zcore a k ∨ (a = 63 ∧ (k = 30 ∨ k = 32 ∨ k = 33)) ∨ a = 64 ∨ a = 78
abbrev zgP (m m' : zf_Me) : Prop := zgr' zcoP m m'
def zPo (m m' : zf_Me) : Prop := zgP m m' ∧ zPt m' ∧ (m.1 63 30).toInt ≤ (m'.1 63 30).toInt
theorem zPn_z {m m' : zf_Me} (h : zPn m m') : zr m' = zr m := zr_of h.1 (fun a k z => by omega)
theorem zwd_of {P : Nat → Nat → Prop} {m m' : zf_Me} (h : zgr' P m m') (hp : ∀ a k, P a k → ¬ a = 76 ∧ ¬ a = 77) (w : zwd m) : zwd m' := ⟨fun k hk => by rw [h.1 76 k (fun z => (hp 76 k z).1 rfl)]; exact w.1 k hk, fun k hk => by rw [h.1 77 k (fun z => (hp 77 k z).2 rfl)]; exact w.2 k hk⟩
theorem zPt_n {m m' : zf_Me} (h : zPt m) (f : zPn m m') : zPt m' := ⟨f.2.1, by rw [zPn_z f]; exact h.2.1, zwd_of f.1 (fun a k z => by omega) h.2.2⟩
theorem zPn_t {a b c : zf_Me} (h : zPn a b) (k : zPn b c) : zPn a c := ⟨zgr_trans h.1 k.1, k.2.1, Int.le_trans h.2.2 k.2.2⟩
theorem zPo_t {a b c : zf_Me} (h : zPo a b) (k : zPo b c) : zPo a c := ⟨zgr_trans h.1 k.1, k.2.1, Int.le_trans h.2.2 k.2.2⟩
theorem zPn_o {m m' : zf_Me} (h : zPt m) (f : zPn m m') : zPo m m' := ⟨zgr_mono f.1 (fun a k z => by omega), zPt_n h f, f.2.2⟩
theorem zPn_r {m : zf_Me} (h : zPt m) : zPn m m := ⟨zgr_refl, h.1, Int.le_refl _⟩
theorem zPc_o {m m' : zf_Me} (h : zPt m) (f : zgc m m') (b : zB (zr m')) : zPo m m' := by
  have e : ∀ k, 13 ≤ k → m'.1 63 k = m.1 63 k := fun k hk => f.1 63 k (by omega)
  refine ⟨zgr_mono f (fun a k z => Or.inl z), ⟨?_, b, zwd_of f (fun a k z => by omega) h.2.2⟩, ?_⟩
  · unfold zpt
    rw [e 29 (by decide), e 30 (by decide), e 31 (by decide)]
    exact h.1
  · rw [e 30 (by decide)]
    exact Int.le_refl _
/-- the text's letter j from here on is the letter p + j of the words -/
def zmj (m : zf_Me) (p j : Nat) : Prop := (m.1 63 30).toInt + j < (m.1 63 31).toInt ∧ (Int64.toInt32 (m.2 74 ((m.1 63 29).toInt + (m.1 63 30).toInt + j).toNat)).toInt = zwa (p + j)
def zmw (m : zf_Me) (w : Nat) : Prop := ∀ j : Nat, (∀ i, i ≤ j → ¬ zwa (zst w + i) = 0) → zmj m (zst w) j
section
variable {m : zf_Me}
theorem zPn_u {m' : zf_Me} {c k : Nat} {x : Int32} (h : zPn m m') (hc : (c = 63 ∧ (k = 32 ∨ k = 33)) ∨ c = 78) : zPn m (zf_u m' c k x) := by
  have e : ∀ j, j = 29 ∨ j = 30 ∨ j = 31 → (zf_u m' c k x).1 63 j = m'.1 63 j := fun j hj => by
    rcases hc with ⟨rfl, h2⟩ | h2
    · exact zf_u4 (by omega)
    · exact congrFun (zf_u1 (by omega)) j
  refine ⟨zgr_u h.1 (by omega), ?_, ?_⟩
  · unfold zpt
    rw [e 29 (by decide), e 30 (by decide), e 31 (by decide)]
    exact h.2.1
  · rw [e 30 (by decide)]
    exact h.2.2
theorem zPn_at {m' : zf_Me} {x : Int32} (h : zPn m m') (h1 : (m'.1 63 30).toInt ≤ x.toInt) (h2 : x.toInt ≤ (m'.1 63 31).toInt) : zPn m (zf_u m' 63 30 x) := by
  have b := h.2.1
  have c := h.2.2
  refine ⟨zgr_u h.1 (by omega), ?_, ?_⟩
  · unfold zpt
    rw [zf_u4 (b := 29) (by decide), zf_u3, zf_u4 (by decide)]
    omega
  · rw [zf_u3]
    omega
theorem zs_153 {v : Int32} {Q : Bool → zf_Me → Prop} (h : zPt m) (hq : ∀ m', zPn m m' → Q false m') : wp_153 v m Q := fun m1 q1 => hq m1 (by rw [q1]; exact zPn_u (zPn_r h) (by omega))
theorem zw_76 (h : zwd m) {v : Int32} (hv : 0 ≤ v.toInt ∧ v.toInt < 75) : (m.1 76 v.toInt.toNat).toInt = zwa v.toInt.toNat := by
  rw [h.1 _ (by omega)]
theorem zs_154 (h : zPt m) {w : Int32} (hw : 0 ≤ w.toInt ∧ w.toInt ≤ 3) {Q : Bool → zf_Me → Prop} (ht : Q true m) (hf : ¬ zmw m w.toInt.toNat → Q false m) : wp_154 w m Q := by
  have e1 : (1 : Int32).toInt = 1 := rfl
  have e0 : (0 : Int32).toInt = 0 := rfl
  have b := h.1
  have sw := zw_st w.toInt.toNat (by omega)
  have lp2 : ∀ (n : Nat) (v2 v3 : Int32) (j : Nat), v2.toInt = zst w.toInt.toNat + j → v3.toInt = (m.1 63 30).toInt + j → (∀ i, i < j → 32 < zwa (zst w.toInt.toNat + i)) → zst w.toInt.toNat + j < zst (w.toInt.toNat + 1) → zst (w.toInt.toNat + 1) < zst w.toInt.toNat + j + n → v3.toInt ≤ (m.1 63 31).toInt → wq_154_37 w Q n v2 v3 m := by
    intro n
    induction n with
    | zero => intro v2 v3 j k1 k2 k3 k4 k5; omega
    | succ n ih =>
      intro v2 v3 j k1 k2 k3 k4 k5 k6
      have c := zw_76 h.2.2 (v := v2) (by omega)
      have e2 : v2.toInt.toNat = zst w.toInt.toNat + j := by omega
      rw [e2] at c
      have E : (32 < zwa (zst w.toInt.toNat + j) → ¬ zmj m (zst w.toInt.toNat) j) → wq_154_86 w v2 m Q := by
        intro hno
        refine ⟨by omega, fun g => hf (fun mw => hno ?_ (mw j (fun i hi => ?_))), fun _ => ht⟩
        · rw [e2, c] at g
          exact g
        · by_cases e : i = j
          · rw [e]
            rw [e2, c] at g
            omega
          · have := k3 i (by omega)
            omega
      refine ⟨by omega, fun g => E (fun g2 => ?_), fun g => ⟨fun g3 => E (fun _ z => ?_), fun g3 => ?_⟩⟩
      · rw [e2, c] at g
        omega
      · have := z.1
        omega
      · rw [e2, c] at g
        have ad := fb_addI (x := m.1 63 29) (y := v3) (by omega) (by omega)
        have ea : (m.1 63 29 + v3).toInt.toNat = ((m.1 63 29).toInt + (m.1 63 30).toInt + j).toNat := by omega
        refine ⟨by omega, by omega, fun g4 => E (fun _ z => g4 ?_), fun _ => ?_⟩
        · rw [ea, e2, c]
          exact z.2
        · have nx := (zw_in w.toInt.toNat (by omega) (zst w.toInt.toNat + j) (by omega) (by omega) k4).2 (by omega)
          have a2 := fb_addI (x := v2) (y := 1) (by omega) (by omega)
          have a3 := fb_addI (x := v3) (y := 1) (by omega) (by omega)
          refine ih _ _ (j + 1) (by omega) (by omega) (fun i hi => ?_) (by omega) (by omega) (by omega)
          by_cases e : i = j
          · rw [e]
            exact g
          · exact k3 i (by omega)
  have lp : ∀ (n : Nat) (v2 v3 : Int32), 0 ≤ v2.toInt → v2.toInt < 75 → 75 - v2.toInt < n → 0 ≤ v3.toInt → v3.toInt ≤ w.toInt → zst v3.toInt.toNat ≤ v2.toInt.toNat → v2.toInt.toNat < zst (v3.toInt.toNat + 1) → (v3.toInt = w.toInt → v2.toInt.toNat = zst w.toInt.toNat) → wq_154_4 w Q n v2 v3 m := by
    intro n
    induction n with
    | zero => intro v2 v3 k0 k1 k2; omega
    | succ n ih =>
      intro v2 v3 k0 k1 k2 k3 k4 k5 k6 k7
      refine ⟨fun g => ⟨77, lp2 77 v2 (m.1 63 30) 0 ?_ (by omega) (fun i hi => by omega) (by omega) (by omega) (by omega)⟩, fun g => ?_⟩
      · have := k7 (by omega)
        omega
      · have c := zw_76 h.2.2 (v := v2) (by omega)
        have t := zw_in v3.toInt.toNat (by omega) v2.toInt.toNat (by omega) k5 k6
        have s1 := zw_st (v3.toInt.toNat + 1) (by omega)
        have a2 := fb_addI (x := v2) (y := 1) (by omega) (by omega)
        have n2 : (v2 + 1).toInt.toNat = v2.toInt.toNat + 1 := by omega
        refine ⟨by omega, fun z => ?_, fun z => ?_⟩
        · rw [c] at z
          have nx := t.2 z
          have a3 := fb_addI (x := v3) (y := 0) (by omega) (by omega)
          have e3 : (v3 + 0).toInt = v3.toInt := by omega
          refine ih _ _ (by omega) (by omega) (by omega) (by omega) (by omega) ?_ ?_ (by omega)
          · rw [n2, e3]
            omega
          · rw [n2, e3]
            exact nx
        · rw [c] at z
          have nx := t.1 z
          have a3 := fb_addI (x := v3) (y := 1) (by omega) (by omega)
          have n3 : (v3 + 1).toInt.toNat = v3.toInt.toNat + 1 := by omega
          refine ih _ _ (by omega) (by omega) (by omega) (by omega) (by omega) ?_ ?_ (fun e => ?_)
          · rw [n2, n3, nx]
            exact Nat.le_refl _
          · rw [n2, n3, nx]
            exact s1.1
          · rw [n2, nx]
            have : v3.toInt.toNat + 1 = w.toInt.toNat := by omega
            rw [this]
  exact ⟨77, lp 77 0 0 (by decide) (by decide) (by decide) (by decide) (by rw [e0]; exact hw.1) (by decide) (by decide) (fun e => by rw [← e]; rfl)⟩
theorem zs_155 (h : zPt m) {Q : Int32 → zf_Me → Prop} (hn : ∀ m', zPn m m' → Q (-1) m') (hq : ∀ (x : Int32) (m' : zf_Me), 0 ≤ x.toInt → x.toInt < 12 → zmw m x.toInt.toNat → zPn m m' → Q x m') : wp_155 m Q := by
  have e1 : (1 : Int32).toInt = 1 := rfl
  have e0 : (0 : Int32).toInt = 0 := rfl
  have b := h.1
  have lp : ∀ (n : Nat) (v1 v2 v3 : Int32), 0 ≤ v3.toInt → v3.toInt ≤ 12 → 12 - v3.toInt < n → v1.toInt = zst v3.toInt.toNat → wq_155_9 Q n v1 v2 v3 m := by
    intro n
    induction n with
    | zero => intro v1 v2 v3 k0 k1 k2; omega
    | succ n ih =>
      intro v1 v2 v3 k0 k1 k2 k3
      refine ⟨fun _ m1 q1 => hn m1 (by rw [q1]; exact zPn_u (zPn_r h) (by omega)), fun g => ?_⟩
      have sw := zw_st v3.toInt.toNat (by omega)
      have a3 := fb_addI (x := v3) (y := 1) (by omega) (by omega)
      have n3 : (v3 + 1).toInt.toNat = v3.toInt.toNat + 1 := by omega
      have lp106 : ∀ (k : Nat) (v2' v1' : Int32), 0 ≤ v1'.toInt → zst v3.toInt.toNat ≤ v1'.toInt.toNat → v1'.toInt.toNat < zst (v3.toInt.toNat + 1) → zst (v3.toInt.toNat + 1) < v1'.toInt.toNat + k → wq_155_106 (wq_155_9 Q n) Q k v1' v2' v3 m := by
        intro k v2'
        induction k with
        | zero => intro v1' j0 j1 j2 j3; omega
        | succ k ik =>
          intro v1' j0 j1 j2 j3
          have c := zw_76 h.2.2 (v := v1') (by omega)
          have t := zw_in v3.toInt.toNat (by omega) v1'.toInt.toNat (by omega) j1 j2
          have a1 := fb_addI (x := v1') (y := 1) (by omega) (by omega)
          have n1 : (v1' + 1).toInt.toNat = v1'.toInt.toNat + 1 := by omega
          refine ⟨by omega, fun z => ?_, fun z => ?_⟩
          · rw [c] at z
            have nx := t.1 z
            refine ih _ _ _ (by omega) (by omega) (by omega) ?_
            rw [n3, ← nx]
            omega
          · rw [c] at z
            have nx := t.2 z
            exact ik _ (by omega) (by omega) (by omega) (by omega)
      have lp24 : ∀ (k : Nat) (v4 v5 : Int32) (j : Nat), v5.toInt = zst v3.toInt.toNat + j → v4.toInt = (m.1 63 30).toInt + j → (∀ i, i < j → zmj m (zst v3.toInt.toNat) i) → zst v3.toInt.toNat + j < zst (v3.toInt.toNat + 1) → zst (v3.toInt.toNat + 1) < zst v3.toInt.toNat + j + k → v4.toInt ≤ (m.1 63 31).toInt → wq_155_24 (wq_155_9 Q n) Q k v1 v2 v3 v4 v5 m := by
        intro k
        induction k with
        | zero => intro v4 v5 j j1 j2 j3 j4 j5; omega
        | succ k ik =>
          intro v4 v5 j j1 j2 j3 j4 j5 j6
          have c := zw_76 h.2.2 (v := v5) (by omega)
          have e5 : v5.toInt.toNat = zst v3.toInt.toNat + j := by omega
          rw [e5] at c
          have E : wq_155_75 (wq_155_9 Q n) v1 v2 v3 v4 v5 m Q := by
            refine ⟨by omega, fun _ => ⟨fun _ => ⟨77, lp106 77 _ _ (by omega) (by omega) (by omega) (by omega)⟩, fun _ => ⟨77, lp106 77 _ _ (by omega) (by omega) (by omega) (by omega)⟩⟩, fun z m3 q3 => hq v3 m3 k0 (by omega) (fun i hi => ?_) ?_⟩
            · refine j3 i (Decidable.byContradiction fun ge => ?_)
              rw [e5, c] at z
              exact hi j (by omega) z
            · rw [q3]
              exact zPn_at (zPn_r h) (by omega) j6
          refine ⟨by omega, fun _ => E, fun z => ⟨fun _ => E, fun g3 => ?_⟩⟩
          rw [e5, c] at z
          have ad := fb_addI (x := m.1 63 29) (y := v4) (by omega) (by omega)
          have ea : (m.1 63 29 + v4).toInt.toNat = ((m.1 63 29).toInt + (m.1 63 30).toInt + j).toNat := by omega
          refine ⟨by omega, by omega, fun _ => E, fun g4 => ?_⟩
          rw [ea, e5, c] at g4
          have nx := (zw_in v3.toInt.toNat (by omega) (zst v3.toInt.toNat + j) (by omega) (by omega) j4).2 z
          have a4 := fb_addI (x := v4) (y := 1) (by omega) (by omega)
          have a5 := fb_addI (x := v5) (y := 1) (by omega) (by omega)
          refine ik _ _ (j + 1) (by omega) (by omega) (fun i hi => ?_) (by omega) (by omega) (by omega)
          by_cases e : i = j
          · rw [e]
            exact ⟨by omega, g4⟩
          · exact j3 i (by omega)
      exact ⟨77, lp24 77 (m.1 63 30) v1 0 (by omega) (by omega) (fun i hi => by omega) (by omega) (by omega) (by omega)⟩
  exact ⟨14, lp 14 0 (m.1 63 30) 0 (by decide) (by decide) (by decide) (by decide)⟩
theorem zs_156 (h : zPt m) {Q : Bool → zf_Me → Prop} (ht : (m.1 63 30).toInt < (m.1 63 31).toInt → 48 ≤ (Int64.toInt32 (m.2 74 ((m.1 63 29) + (m.1 63 30)).toInt.toNat)).toInt → (Int64.toInt32 (m.2 74 ((m.1 63 29) + (m.1 63 30)).toInt.toNat)).toInt ≤ 57 → Q true m) (hf : Q false m) : wp_156 m Q := by
  have b := h.1
  refine ⟨fun _ => hf, fun g => ?_⟩
  have ad := fb_addI (x := m.1 63 29) (y := m.1 63 30) (by omega) (by omega)
  exact ⟨by omega, fun _ => hf, fun g2 => ⟨by omega, fun _ => hf, fun g3 => ht g g2 g3⟩⟩
theorem zs_157 (h : zPt m) {Q : Bool → zf_Me → Prop} (ht : ∀ m', zPn m m' → 0 ≤ (m'.1 63 32).toInt → (m'.1 63 32).toInt ≤ 99 → (∀ i, m'.1 78 i = m.1 78 i) → Q true m') (hf : ∀ m', zPn m m' → Q false m') : wp_157 m Q := by
  have e1 : (1 : Int32).toInt = 1 := rfl
  have e0 : (0 : Int32).toInt = 0 := rfl
  have e10 : (10 : Int32).toInt = 10 := rfl
  have e48 : (48 : Int32).toInt = 48 := rfl
  intro m1 q1
  have f1 : zPn m m1 := by
    rw [q1]
    exact zPn_u (zPn_r h) (by omega)
  have n1 : (m1.1 63 32).toInt = 0 := by rw [q1, zf_u3, e0]
  have r1 : ∀ i, m1.1 78 i = m.1 78 i := fun i => by rw [q1, zf_u1 (by decide)]
  have lp : ∀ (k : Nat) (v : Int32) (mj : zf_Me), 0 ≤ v.toInt → v.toInt ≤ 2 → 2 - v.toInt < k → zPn m mj → 0 ≤ (mj.1 63 32).toInt → (v.toInt = 0 → (mj.1 63 32).toInt = 0) → (v.toInt = 1 → (mj.1 63 32).toInt ≤ 9) → (mj.1 63 32).toInt ≤ 99 → (∀ i, mj.1 78 i = m.1 78 i) → wq_157_23 Q k v mj := by
    intro k
    induction k with
    | zero => intro v mj k0 k1 k2; omega
    | succ k ih =>
      intro v mj k0 k1 k2 kf n0 na nb nc kr
      have hj := zPt_n h kf
      have bj := hj.1
      refine ⟨fun _ => ht mj kf n0 nc kr, fun g => zs_156 hj (fun g1 g2 g3 => ⟨fun z => (nomatch z), fun _ => ?_⟩) ⟨fun _ => ht mj kf n0 nc kr, fun z => (nomatch z)⟩⟩
      have ad := fb_addI (x := mj.1 63 29) (y := mj.1 63 30) (by omega) (by omega)
      have n9 : (mj.1 63 32).toInt ≤ 9 := by omega
      have mu := fb_mulI (x := 10) (y := mj.1 63 32) (by rw [e10]; omega) (by rw [e10]; omega)
      rw [e10] at mu
      obtain ⟨c, hc⟩ : ∃ c, c = Int64.toInt32 (mj.2 74 ((mj.1 63 29) + (mj.1 63 30)).toInt.toNat) := ⟨_, rfl⟩
      rw [← hc] at g2 g3
      have s1 := fb_addI (x := 10 * mj.1 63 32) (y := c) (by omega) (by omega)
      have s2 := fb_subI (x := 10 * mj.1 63 32 + c) (y := 48) (by omega) (by omega)
      have sv := fb_addI (x := v) (y := 1) (by omega) (by omega)
      refine ⟨by omega, fun m7 q7 m9 q9 => ?_⟩
      rw [← hc] at q7
      have f7 : zPn m m7 := by
        rw [q7]
        exact zPn_u kf (by omega)
      have a7 : m7.1 63 30 = mj.1 63 30 := by rw [q7, zf_u4 (by decide)]
      have e7 : m7.1 63 31 = mj.1 63 31 := by rw [q7, zf_u4 (by decide)]
      have sa := fb_addI (x := m7.1 63 30) (y := 1) (by rw [a7]; omega) (by rw [a7]; omega)
      have f9 : zPn m m9 := by
        rw [q9]
        exact zPn_at f7 (by omega) (by rw [e7, sa, a7]; omega)
      have v9 : (m9.1 63 32).toInt = 10 * (mj.1 63 32).toInt + c.toInt - 48 := by
        rw [q9, zf_u4 (by decide), q7, zf_u3]
        omega
      exact ih _ m9 (by omega) (by omega) (by omega) f9 (by omega) (by omega) (by omega) (by omega) (fun i => by rw [q9, zf_u1 (by decide), q7, zf_u1 (by decide)]; exact kr i)
  exact zs_156 (zPt_n h f1) (fun _ _ _ => ⟨fun _ => ⟨4, lp 4 0 m1 (by decide) (by decide) (by decide) f1 (by omega) (fun _ => n1) (fun z => by omega) (by omega) r1⟩, fun z => (nomatch z)⟩) ⟨fun z => (nomatch z), fun _ => zs_153 (zPt_n h f1) (fun m' f' => hf m' (zPn_t f1 f'))⟩
/-- a number that the word w takes as its number i -/
def zok (f : zS) (w i n : Int) : Prop := (w = 0 ∨ w = 1 → n ≤ 3) ∧ (w = 3 → i = 0 → n ≤ 6) ∧ (w = 3 → ¬ i = 0 → n ≤ 9) ∧ (w = 4 → ¬ i = 1 → n < f 5 6) ∧ (w = 5 → n < f 5 6) ∧ (6 ≤ w → w ≤ 10 → zlo (w - 6).toNat ≤ n ∧ n ≤ zhi (w - 6).toNat) ∧ (w = 11 → n ≤ 9 ∧ zmay f n)
theorem zs_158 (h : zPt m) {w i : Int32} (hw : 0 ≤ w.toInt ∧ w.toInt < 12 ∧ ¬ w.toInt = 2) {Q : Bool → zf_Me → Prop} (ht : zok (zr m) w.toInt i.toInt (m.1 63 32).toInt → Q true m) (hf : Q false m) : wp_158 w i m Q := by
  have e6 : (6 : Int32).toInt = 6 := rfl
  have pp : zr m 5 6 = (m.1 63 1).toInt := rfl
  have w6 : 6 ≤ w.toInt → w.toInt ≤ 10 → wp_146 (w - 6) (m.1 63 32) m (fun b m' => Q b m') := fun g1 g2 => by
    have s := fb_subI (x := w) (y := 6) (by omega) (by omega)
    refine zs_146 (by omega) (fun k => ht ?_) (fun _ => hf)
    have e : (w - 6).toInt.toNat = (w.toInt - 6).toNat := by omega
    rw [e] at k
    exact ⟨fun z => by omega, fun z => by omega, fun z => by omega, fun z => by omega, fun z => by omega, fun _ _ => k, fun z => by omega⟩
  refine ⟨fun z => by omega, fun z => ⟨fun _ => hf, fun g => ht ?_⟩, fun z => ⟨fun _ => hf, fun g => ht ?_⟩, fun z => absurd z hw.2.2, fun z => ⟨fun z2 => ⟨fun _ => hf, fun g => ht ?_⟩, fun z2 => ⟨fun _ => hf, fun g => ht ?_⟩⟩, fun z => ⟨fun z2 => ht ?_, fun z2 => ⟨fun _ => hf, fun g => ht ?_⟩⟩, fun z => ⟨fun _ => hf, fun g => ht ?_⟩, fun z => w6 (by omega) (by omega), fun z => w6 (by omega) (by omega), fun z => w6 (by omega) (by omega), fun z => w6 (by omega) (by omega), fun z => w6 (by omega) (by omega), fun z => ⟨fun _ => hf, fun g => zs_167 h.2.1 g (fun b hb => ⟨fun _ => hf, fun e => ht ?_⟩)⟩⟩
  · exact ⟨fun _ => g, fun z => by omega, fun z => by omega, fun z => by omega, fun z => by omega, fun z => by omega, fun z => by omega⟩
  · exact ⟨fun _ => g, fun z => by omega, fun z => by omega, fun z => by omega, fun z => by omega, fun z => by omega, fun z => by omega⟩
  · exact ⟨fun z => by omega, fun _ k => absurd k z2, fun _ _ => g, fun z => by omega, fun z => by omega, fun z => by omega, fun z => by omega⟩
  · exact ⟨fun z => by omega, fun _ _ => g, fun _ k => absurd z2 k, fun z => by omega, fun z => by omega, fun z => by omega, fun z => by omega⟩
  · exact ⟨fun z => by omega, fun z => by omega, fun z => by omega, fun _ k => absurd z2 k, fun z => by omega, fun z => by omega, fun z => by omega⟩
  · exact ⟨fun z => by omega, fun z => by omega, fun z => by omega, fun _ _ => by rw [pp]; exact g, fun z => by omega, fun z => by omega, fun z => by omega⟩
  · exact ⟨fun z => by omega, fun z => by omega, fun z => by omega, fun z => by omega, fun _ => by rw [pp]; exact g, fun z => by omega, fun z => by omega⟩
  · exact ⟨fun z => by omega, fun z => by omega, fun z => by omega, fun z => by omega, fun z => by omega, fun z => by omega, fun _ => ⟨g, hb.mp e⟩⟩
end
