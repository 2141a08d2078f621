/-! part 65: the reference between calls (JM); its simple calls -/
abbrev zfd (m m' : zf_Me) : Prop := ∀ a, a < 63 → m'.1 a = m.1 a ∧ m'.2 a = m.2 a
def zsR (m : zf_Me) : Prop := ∀ j, j < 8 → (0 ≤ (m.1 70 j).toInt ∧ (m.1 70 j).toInt ≤ 2) ∧ (0 ≤ (m.1 72 j).toInt ∧ (m.1 72 j).toInt ≤ 160) ∧ ((m.1 70 j).toInt = 2 → 0 ≤ (m.1 73 j).toInt ∧ (m.1 73 j).toInt ≤ 5)
def zkp (m : zf_Me) : Prop := (m.1 63 52).toInt = 0 ∨ zB (zA 80 0 m)
def zwl : List Int32 := [117, 112, 32, 0, 100, 111, 119, 110, 32, 0, 115, 116, 105, 108, 101, 0, 112, 101, 114, 115, 111, 110, 32, 0, 116, 105, 114, 101, 100, 32, 0, 98, 97, 103, 32, 0, 108, 101, 103, 115, 32, 0, 110, 97, 112, 32, 0, 119, 111, 114, 110, 32, 0, 98, 105, 115, 99, 117, 105, 116, 115, 32, 0, 114, 97, 99, 101, 115, 32, 0, 97, 99, 116, 32, 0]
def znl : List Int32 := [1, 1, 0, 2, 2, 1, 1, 1, 1, 1, 1, 1]
def zwd (m : zf_Me) : Prop := (∀ k, k < 75 → m.1 76 k = zwl.getD k 0) ∧ (∀ k, k < 12 → m.1 77 k = znl.getD k 0)
def JM (m : zf_Me) : Prop := zB (zr m) ∧ zsR m ∧ zkp m ∧ zwd m
abbrev zcoQ (a k : Nat) : Prop := (a = 63 ∧ ¬ k = 52 ∧ ¬ k = 51 ∧ ¬ k = 13) ∨ (64 ≤ a ∧ a ≤ 69) ∨ a = 78 ∨ a = 79 ∨ (81 ≤ a ∧ a ≤ 84)
abbrev zgQ (m m' : zf_Me) : Prop := zgr' zcoQ m m'
theorem zfd_of {P : Nat → Nat → Prop} {m m' : zf_Me} (h : zgr' P m m') (hp : ∀ a k, P a k → 63 ≤ a) : zfd m m' := fun a ha => ⟨by
  funext k
  exact h.1 a k (fun z => by have := hp a k z; omega), by rw [h.2]⟩
theorem zfd_refl {m : zf_Me} : zfd m m := fun _ _ => ⟨rfl, rfl⟩
theorem zfd_trans {a b c : zf_Me} (h : zfd a b) (k : zfd b c) : zfd a c := fun i hi => ⟨(k i hi).1.trans (h i hi).1, (k i hi).2.trans (h i hi).2⟩
/-- as zgQ, and the fault, the trace -/
abbrev zcoB (a k : Nat) : Prop := (a = 63 ∧ ¬ k = 52) ∨ (64 ≤ a ∧ a ≤ 69) ∨ a = 78 ∨ a = 79 ∨ (81 ≤ a ∧ a ≤ 85)
abbrev zgB (m m' : zf_Me) : Prop := zgr' zcoB m m'
theorem JM_b {m m' : zf_Me} (hJ : JM m) (h : zgB m m') (hB : zB (zr m')) : JM m' := by
  refine ⟨hB, fun j hj => ?_, ?_, fun k hk => ?_, fun k hk => ?_⟩
  · rw [h.1 70 j (by omega), h.1 72 j (by omega), h.1 73 j (by omega)]
    exact hJ.2.1 j hj
  · unfold zkp
    rw [h.1 63 52 (by omega), zA_of h (fun k => by omega)]
    exact hJ.2.2.1
  · rw [h.1 76 k (by omega)]
    exact hJ.2.2.2.1 k hk
  · rw [h.1 77 k (by omega)]
    exact hJ.2.2.2.2 k hk
theorem zgQ_b {m m' : zf_Me} (h : zgQ m m') : zgB m m' := zgr_mono h (fun a k z => by omega)
theorem JM_q {m m' : zf_Me} (hJ : JM m) (h : zgQ m m') (hB : zB (zr m')) : JM m' := JM_b hJ (zgQ_b h) hB
theorem zfd_b {m m' : zf_Me} (h : zgB m m') : zfd m m' := zfd_of h (fun a k z => by omega)
theorem zfd_q {m m' : zf_Me} (h : zgQ m m') : zfd m m' := zfd_of h (fun a k z => by omega)
theorem zgc_q {m m' : zf_Me} (h : zgc m m') : zgQ m m' := zgr_mono h (fun a k z => by omega)
theorem zgL_q {m m' : zf_Me} (h : zgL m m') : zgQ m m' := zgr_mono h (fun a k z => by omega)
theorem zg64_q {m m' : zf_Me} (h : zgr' (fun a _ => a = 64) m m') : zgQ m m' := zgr_mono h (fun a k z => by omega)
theorem zg64_r {m m' : zf_Me} (h : zgr' (fun a _ => a = 64) m m') : zr m' = zr m := zr_of h (fun a k z => by omega)
/-- only shelves of the reference -/
theorem JM_s {m m' : zf_Me} (hJ : JM m) (h : ∀ a, ¬ (70 ≤ a ∧ a ≤ 73) → m'.1 a = m.1 a) (hs : zsR m') : JM m' := by
  refine ⟨?_, hs, ?_, fun k hk => ?_, fun k hk => ?_⟩
  · rw [show zr m' = zr m from zr_fr (fun k _ => by rw [h 63 (by decide)]) (fun a _ _ => h a (by omega))]
    exact hJ.1
  · unfold zkp
    rw [h 63 (by decide), show zA 80 0 m' = zA 80 0 m from zL_ext (fun i _ => by rw [h 80 (by decide)])]
    exact hJ.2.2.1
  · rw [h 76 (by decide)]
    exact hJ.2.2.2.1 k hk
  · rw [h 77 (by decide)]
    exact hJ.2.2.2.2 k hk
theorem zix {s i : Int32} (hs : 0 ≤ s.toInt ∧ s.toInt < 8) (hi : 0 ≤ i.toInt ∧ i.toInt ≤ 160) : (160 * s + i).toInt = 160 * s.toInt + i.toInt := by
  have e : (160 : Int32).toInt = 160 := rfl
  have m := fb_mulI (x := 160) (y := s) (by rw [e]; omega) (by rw [e]; omega)
  rw [e] at m
  rw [fb_addI (by rw [m]; omega) (by rw [m]; omega), m]
section
variable {m : zf_Me}
theorem zk_125 {w : Int32} (hw : -8 < w.toInt ∧ w.toInt ≤ 0) (hB : zB (zr m)) {Q : Int32 → zf_Me → Prop} (K : ∀ v m', zgQ m m' → zB (zr m') → Q v m') : wp_125 w m Q :=
  zs_125 hw (fun m' f => K _ m' (zg64_q f) (by rw [zg64_r f]; exact hB))
theorem zk_126 {w : Int32} (hw : -8 < w.toInt ∧ w.toInt ≤ 0) (hB : zB (zr m)) {Q : Int32 → zf_Me → Prop} (K : ∀ v m', zgQ m m' → zB (zr m') → Q v m') : wp_126 w m Q :=
  zs_126 hw (fun m' f => K _ m' (zg64_q f) (by rw [zg64_r f]; exact hB))
theorem zy_130 (hJ : JM m) {s o n : Int32} {Q : Int32 → zf_Me → Prop} (hq : ∀ (v : Int32) (m' : zf_Me), JM m' → zfd m m' → v.toInt = zrowA s.toInt o.toInt n.toInt → Q v m') : wp_130 s o n m Q := by
  have R : ∀ {w : Int32}, (-8 < w.toInt ∧ w.toInt ≤ 0) → w.toInt = zrowA s.toInt o.toInt n.toInt → wp_125 w m Q := fun hw e => zs_125 hw (fun m' f => hq _ m' (JM_q hJ (zg64_q f) (by rw [zg64_r f]; exact hJ.1)) (zfd_q (zg64_q f)) e)
  have e1 : (1 : Int32).toInt = 1 := rfl
  refine zs_127 (fun g => ⟨fun _ => ⟨fun g2 => ⟨fun g3 => R (by decide) ?_, fun g3 => ⟨fun g4 => ⟨fun g5 => ⟨g, fun m5 q5 => ⟨g, fun m7 q7 => ⟨g, fun m9 q9 => ?_⟩⟩⟩, fun g5 => R (by decide) ?_⟩, fun g4 => R (by decide) ?_⟩⟩, fun g2 => R (by decide) ?_⟩, fun z => (nomatch z)⟩) (fun g => ⟨fun z => (nomatch z), fun _ => R (by decide) ?_⟩)
  · unfold zrowA
    rw [if_neg (by omega), if_neg (by omega), if_pos (by omega)]
    rfl
  · have i9 : ∀ a, ¬ (70 ≤ a ∧ a ≤ 73) → m9.1 a = m.1 a := fun a ha => by rw [q9, zf_u1 (by omega), q7, zf_u1 (by omega), q5, zf_u1 (by omega)]
    have s9 : zsR m9 := fun j hj => by
      have b := hJ.2.1 j hj
      have h73 : m9.1 73 j = m.1 73 j := by rw [q9, zf_u1 (by decide), q7, zf_u1 (by decide), q5, zf_u1 (by decide)]
      rw [h73]
      by_cases e : j = s.toInt.toNat
      · have h70 : m9.1 70 j = 1 := by rw [q9, zf_u1 (by decide), q7, zf_u1 (by decide), q5, e, zf_u3]
        have h72 : m9.1 72 j = n := by rw [q9, e, zf_u3]
        rw [h70, h72]
        exact ⟨by decide, by omega, fun z => absurd z (by decide)⟩
      · have h70 : m9.1 70 j = m.1 70 j := by rw [q9, zf_u1 (by decide), q7, zf_u1 (by decide), q5, zf_u4 e]
        have h72 : m9.1 72 j = m.1 72 j := by rw [q9, zf_u4 e, q7, zf_u1 (by decide), q5, zf_u1 (by decide)]
        rw [h70, h72]
        exact b
    have l9 : m9.2 = m.2 := by rw [q9, q7, q5]; rfl
    have lp : ∀ (k : Nat) (v : Int32) (mj : zf_Me), 0 ≤ v.toInt → v.toInt ≤ 160 → 160 - v.toInt < k → mj.1 = m9.1 → (∀ a, a < 63 → mj.2 a = m.2 a) → wq_130_79 s o n Q k v mj := by
      intro k
      induction k with
      | zero => intro v mj k0 k1 k2; omega
      | succ k ih =>
        intro v mj k0 k1 k2 h1 h2
        refine ⟨fun _ => hq 1 mj (JM_s hJ (fun a ha => by rw [h1]; exact i9 a ha) (by unfold zsR; rw [h1]; exact s9)) (fun a ha => ⟨by rw [h1]; exact i9 a (by omega), h2 a ha⟩) ?_, fun g6 => ?_⟩
        · unfold zrowA
          rw [if_neg (by omega), if_neg (by omega), if_neg (by omega), if_neg (by omega)]
          rfl
        · have t := zix (s := s) (i := v) g (by omega)
          have t2 := fb_addI (x := v) (y := 1) (by omega) (by omega)
          refine ⟨by omega, fun m11 q11 => ih _ m11 (by omega) (by omega) (by omega) (by rw [q11]; exact h1) (fun a ha => ?_)⟩
          rw [q11]
          exact (if_neg (by omega)).trans (h2 a ha)
    exact ⟨162, lp 162 0 m9 (by decide) (by decide) (by decide) rfl (fun a _ => by rw [l9])⟩
  · unfold zrowA
    rw [if_neg (by omega), if_neg (by omega), if_neg (by omega), if_pos (by omega)]
    rfl
  · unfold zrowA
    rw [if_neg (by omega), if_neg (by omega), if_pos (by omega)]
    rfl
  · unfold zrowA
    rw [if_neg (by omega), if_pos (by omega)]
    rfl
  · unfold zrowA
    rw [if_pos (by omega)]
    rfl
/-- longs of the reference alone -/
theorem JM_l {m' : zf_Me} (hJ : JM m) (h : m'.1 = m.1) : JM m' := by
  unfold JM zsR zkp zwd zA
  rw [show zr m' = zr m from zr_fr (fun k _ => by rw [h]) (fun a _ _ => by rw [h]), h]
  exact hJ
theorem zfd_l {c i : Nat} {x : Int64} (hc : 63 ≤ c) : zfd m (zf_ul m c i x) := fun a ha => ⟨rfl, if_neg (by omega)⟩
theorem zy_131 (hJ : JM m) {s i : Int32} {x : Int64} {Q : Int32 → zf_Me → Prop} (hq : ∀ (v : Int32) (m' : zf_Me), JM m' → zfd m m' → Q v m') : wp_131 s i x m Q := by
  have K : ∀ v m', zgQ m m' → zB (zr m') → Q v m' := fun v m' f b => hq v m' (JM_q hJ f b) (zfd_q f)
  have R : ∀ {w : Int32}, (-8 < w.toInt ∧ w.toInt ≤ 0) → wp_125 w m Q := fun hw => zk_125 hw hJ.1 K
  refine zs_127 (fun g => ⟨fun _ => ⟨g, fun _ => ⟨g, fun _ => ⟨fun _ => R (by decide), fun g1 => ⟨g, fun g2 => ?_, fun _ => R (by decide)⟩⟩, fun _ => R (by decide)⟩, fun _ => R (by decide)⟩, fun z => (nomatch z)⟩) (fun g => ⟨fun z => (nomatch z), fun _ => R (by decide)⟩)
  have b := hJ.2.1 s.toInt.toNat (by omega)
  have t := zix (s := s) (i := i) g (by omega)
  have L : ∀ (y : Int64) (m' : zf_Me), m' = zf_ul m 74 (160 * s + i).toInt.toNat y → Q 1 m' := fun y m' q' => by
    rw [q']
    exact hq 1 _ (JM_l hJ rfl) (zfd_l (by decide))
  exact ⟨g, fun _ => ⟨g, fun _ => ⟨g, fun _ => ⟨by omega, L _⟩, fun _ => ⟨by omega, L _⟩⟩, fun _ => ⟨by omega, L _⟩⟩, fun _ => ⟨by omega, L _⟩⟩
theorem zy_132 (hJ : JM m) {p q i j n : Int32} {Q : Int32 → zf_Me → Prop} (hq : ∀ (v : Int32) (m' : zf_Me), JM m' → zfd m m' → Q v m') : wp_132 p q i j n m Q := by
  have K : ∀ v m', zgQ m m' → zB (zr m') → Q v m' := fun v m' f b => hq v m' (JM_q hJ f b) (zfd_q f)
  have R : ∀ {w : Int32}, (-8 < w.toInt ∧ w.toInt ≤ 0) → wp_125 w m Q := fun hw => zk_125 hw hJ.1 K
  have e1 : (1 : Int32).toInt = 1 := rfl
  have t84 : (0 ≤ p.toInt ∧ p.toInt < 8) → (0 ≤ q.toInt ∧ q.toInt < 8) → wq_132_84 p q i j n m Q := by
    intro hp hq2
    have b1 := hJ.2.1 p.toInt.toNat (by omega)
    have b2 := hJ.2.1 q.toInt.toNat (by omega)
    refine ⟨hp, fun _ => R (by decide), fun _ => ⟨hq2, fun _ => ⟨fun g => ⟨fun _ => R (by decide), fun g1 => ⟨fun _ => R (by decide), fun g2 => ⟨hp, fun _ => R (by decide), fun g3 => ⟨hq2, fun g4 => ?_, fun _ => R (by decide)⟩⟩⟩⟩, fun _ => R (by decide)⟩, fun _ => R (by decide)⟩⟩
    have rn := fb_rng n
    have s1 := fb_subI (x := m.1 72 p.toInt.toNat) (y := n) (by omega) (by omega)
    have s2 := fb_subI (x := m.1 72 q.toInt.toNat) (y := n) (by omega) (by omega)
    have lp2 : ∀ (k : Nat) (v : Int32) (mj : zf_Me), 0 ≤ v.toInt → v.toInt ≤ n.toInt → n.toInt - v.toInt < k → mj.1 = m.1 → (∀ a, a < 63 → mj.2 a = m.2 a) → wq_132_205 p q i j n Q k v mj := by
      intro k
      induction k with
      | zero => intro v mj k0 k1 k2; omega
      | succ k ih =>
        intro v mj k0 k1 k2 h1 h2
        refine ⟨fun _ => hq 1 mj (JM_l hJ h1) (fun a ha => ⟨by rw [h1], h2 a ha⟩), fun g6 => ?_⟩
        have t := zix (s := q) (i := j) hq2 (by omega)
        have t1 := fb_addI (x := 160 * q + j) (y := v) (by omega) (by omega)
        have t2 := fb_addI (x := v) (y := 1) (by omega) (by omega)
        refine ⟨by omega, by omega, fun m19 q19 => ih _ m19 (by omega) (by omega) (by omega) (by rw [q19]; exact h1) (fun a ha => ?_)⟩
        rw [q19]
        exact (if_neg (by omega)).trans (h2 a ha)
    have lp : ∀ (k : Nat) (v : Int32) (mj : zf_Me), 0 ≤ v.toInt → v.toInt ≤ n.toInt → n.toInt - v.toInt < k → mj.1 = m.1 → (∀ a, a < 63 → mj.2 a = m.2 a) → wq_132_167 p q i j n Q k v mj := by
      intro k
      induction k with
      | zero => intro v mj k0 k1 k2; omega
      | succ k ih =>
        intro v mj k0 k1 k2 h1 h2
        refine ⟨fun _ => ⟨162, lp2 162 0 mj (by decide) (by exact g) (by show n.toInt - 0 < _; omega) h1 h2⟩, fun g6 => ?_⟩
        have t := zix (s := p) (i := i) hp (by omega)
        have t1 := fb_addI (x := 160 * p + i) (y := v) (by omega) (by omega)
        have t2 := fb_addI (x := v) (y := 1) (by omega) (by omega)
        refine ⟨by omega, by omega, fun m21 q21 => ih _ m21 (by omega) (by omega) (by omega) (by rw [q21]; exact h1) (fun a ha => ?_)⟩
        rw [q21]
        exact (if_neg (by omega)).trans (h2 a ha)
    exact ⟨162, lp 162 0 m (by decide) (by exact g) (by show n.toInt - 0 < _; omega) rfl (fun _ _ => rfl)⟩
  exact zs_127 (fun hp => ⟨fun z => (nomatch z), fun _ => zs_127 (fun hq2 => ⟨fun _ => ⟨hp, fun _ => R (by decide), fun _ => ⟨hq2, fun _ => R (by decide), fun _ => ⟨hp, fun _ => t84 hp hq2, fun _ => ⟨hq2, fun _ => t84 hp hq2, fun _ => ⟨hp, hq2, fun _ => t84 hp hq2, fun _ => R (by decide)⟩⟩⟩⟩⟩, fun z => (nomatch z)⟩) (fun _ => ⟨fun z => (nomatch z), fun _ => R (by decide)⟩)⟩) (fun _ => ⟨fun _ => R (by decide), fun z => (nomatch z)⟩)
theorem zy_133 (hJ : JM m) {s i : Int32} {Q : Int64 → zf_Me → Prop} (hq : ∀ (v : Int64) (m' : zf_Me), JM m' → zfd m m' → Q v m') : wp_133 s i m Q := by
  have K : ∀ v, Q v m := fun v => hq v m hJ zfd_refl
  refine zs_127 (fun g => ⟨fun z => (nomatch z), fun _ => ⟨g, fun _ => K _, fun _ => ⟨fun _ => K _, fun g1 => ⟨g, fun _ => K _, fun g2 => ?_⟩⟩⟩⟩) (fun _ => ⟨fun _ => K _, fun z => (nomatch z)⟩)
  have b := hJ.2.1 s.toInt.toNat (by omega)
  have t := zix (s := s) (i := i) g (by omega)
  exact ⟨by omega, K _⟩
theorem zy_134 (hJ : JM m) {s p : Int32} {Q : Int32 → zf_Me → Prop} (hq : ∀ (v : Int32) (m' : zf_Me), JM m' → zfd m m' → Q v m') : wp_134 s p m Q := by
  have K : ∀ v m', zgQ m m' → zB (zr m') → Q v m' := fun v m' f b => hq v m' (JM_q hJ f b) (zfd_q f)
  have R : ∀ {w : Int32}, (-8 < w.toInt ∧ w.toInt ≤ 0) → wp_125 w m Q := fun hw => zk_125 hw hJ.1 K
  have bz := zB_r hJ.1
  have t42 : (0 ≤ s.toInt ∧ s.toInt < 8) → ∀ u : Int32, (0 ≤ u.toInt ∧ u.toInt ≤ 2) → (u.toInt = 2 → 0 ≤ p.toInt ∧ p.toInt ≤ 5) → wq_134_42 s p u s m Q := by
    intro g u hu hp
    refine ⟨g, fun m5 q5 => ⟨g, fun m7 q7 => ?_⟩⟩
    have i7 : ∀ a, ¬ (70 ≤ a ∧ a ≤ 73) → m7.1 a = m.1 a := fun a ha => by rw [q7, zf_u1 (by omega), q5, zf_u1 (by omega)]
    have s7 : zsR m7 := fun j hj => by
      have b := hJ.2.1 j hj
      rw [q7, zf_u1 (a := 70) (by decide), zf_u1 (a := 72) (by decide), q5, zf_u1 (a := 72) (by decide)]
      by_cases e : j = s.toInt.toNat
      · rw [e, zf_u3, zf_u3]
        rw [e] at b
        exact ⟨hu, b.2.1, hp⟩
      · rw [zf_u4 e, zf_u4 e, zf_u1 (by decide)]
        exact b
    have d7 : zfd m m7 := fun a ha => ⟨i7 a (by omega), by rw [q7, q5]; rfl⟩
    exact ⟨fun _ => hq 1 m7 (JM_s hJ i7 s7) d7, fun _ => hq 0 m7 (JM_s hJ i7 s7) d7⟩
  have t27 : (0 ≤ s.toInt ∧ s.toInt < 8) → (p.toInt = -1 ∨ 0 ≤ p.toInt ∧ p.toInt ≤ 5) → wq_134_27 s p m Q := fun g hp => ⟨fun g1 => t42 g 2 (by decide) (fun _ => hp.resolve_left g1), fun _ => t42 g 0 (by decide) (fun z => absurd z (by decide))⟩
  exact zs_127 (fun g => ⟨fun z => (nomatch z), fun _ => ⟨fun k => t27 g (Or.inl k), fun _ => zs_128 (fun g2 => ⟨fun _ => t27 g (Or.inr (by omega)), fun z => (nomatch z)⟩) (fun _ => ⟨fun z => (nomatch z), fun _ => R (by decide)⟩)⟩⟩) (fun _ => ⟨fun _ => R (by decide), fun z => (nomatch z)⟩)
theorem zy_135 (hJ : JM m) {s : Int32} {Q : Int32 → zf_Me → Prop} (hq : ∀ (v : Int32) (m' : zf_Me), JM m' → zfd m m' → Q v m') : wp_135 s m Q := by
  have K : ∀ v, Q v m := fun v => hq v m hJ zfd_refl
  exact zs_127 (fun g => ⟨fun z => (nomatch z), fun _ => ⟨g, fun _ => ⟨g, fun _ => ⟨g, K _⟩, fun _ => ⟨g, K _⟩⟩, fun _ => K _⟩⟩) (fun _ => ⟨fun _ => K _, fun z => (nomatch z)⟩)
theorem zy_136 (hJ : JM m) {s k : Int32} {Q : Int32 → zf_Me → Prop} (hq : ∀ (v : Int32) (m' : zf_Me), JM m' → zfd m m' → Q v m') : wp_136 s k m Q := by
  have K : ∀ v m', zgQ m m' → zB (zr m') → Q v m' := fun v m' f b => hq v m' (JM_q hJ f b) (zfd_q f)
  have K0 : ∀ v, Q v m := fun v => K v m zgr_refl hJ.1
  have R : ∀ {w : Int32}, (-8 < w.toInt ∧ w.toInt ≤ 0) → wp_125 w m Q := fun hw => zk_125 hw hJ.1 K
  have t135 : ∀ p i : Int32, (0 ≤ p.toInt ∧ p.toInt < 6) → wq_136_135 s k p i m Q := fun p i hp =>
    ⟨fun _ => zs_165 hJ.1 hp (by decide) (fun x _ => K0 _), fun _ => ⟨hp, K0 _⟩, fun _ => ⟨fun _ => K0 _, fun _ => K0 _⟩, fun _ => zs_164 (fun b _ => ⟨fun _ => K0 _, fun _ => K0 _⟩), fun _ => ⟨fun _ => K0 _, fun _ => K0 _⟩, fun _ => zs_165 hJ.1 hp (by decide) (fun x _ => K0 _), fun _ => zs_164 (fun b _ => ⟨fun _ => K0 _, fun _ => K0 _⟩)⟩
  have t111 : ∀ p i u : Int32, (0 ≤ p.toInt ∧ p.toInt < 6) → wq_136_111 s k p i u m Q := fun p i u hp => ⟨fun _ => t135 p i hp, fun _ => ⟨fun _ => t135 p i hp, fun _ => ⟨fun _ => t135 p i hp, fun _ => R (by decide)⟩⟩⟩
  have t94 : ∀ p i : Int32, (0 ≤ p.toInt ∧ p.toInt < 6) → wq_136_94 s k p i m Q := fun p i hp => ⟨fun _ => t111 p i 0 hp, fun _ => ⟨fun _ => t111 p i 0 hp, fun _ => t111 p i 1 hp⟩⟩
  have t83 : ∀ p i : Int32, (0 ≤ p.toInt ∧ p.toInt < 6) → wq_136_83 s k p i m Q := fun p i hp => ⟨fun _ => t94 p i hp, fun _ => ⟨fun _ => t111 p i 1 hp, fun _ => t94 p i hp⟩⟩
  refine zs_127 (fun g => ⟨fun z => (nomatch z), fun _ => ⟨fun _ => R (by decide), fun _ => ⟨fun _ => ⟨g, fun n1 => ⟨g, fun n0 => ?_, fun _ => R (by decide)⟩, fun _ => R (by decide)⟩, fun _ => R (by decide)⟩⟩⟩) (fun _ => ⟨fun _ => R (by decide), fun z => (nomatch z)⟩)
  have b := hJ.2.1 s.toInt.toNat (by omega)
  have p := b.2.2 (by omega)
  exact ⟨g, by omega, fun _ => t83 _ _ (by omega), fun _ => ⟨fun _ => t111 _ _ 1 (by omega), fun _ => t83 _ _ (by omega)⟩⟩
theorem zs_137 {s : Int32} {Q : Int32 → zf_Me → Prop} (h0 : (0 ≤ s.toInt ∧ s.toInt < 8) → ¬ (m.1 70 s.toInt.toNat).toInt = 2 → ¬ (m.1 70 s.toInt.toNat).toInt = 0 → Q 0 m) (h1 : ∀ x : Int32, -3 ≤ x.toInt → x.toInt ≤ -1 → Q x m) : wp_137 s m Q :=
  zs_127 (fun g => ⟨fun _ => ⟨g, fun a => ⟨g, fun b => h0 g a b, fun _ => h1 (-3) (by decide) (by decide)⟩, fun _ => h1 (-2) (by decide) (by decide)⟩, fun z => (nomatch z)⟩) (fun _ => ⟨fun z => (nomatch z), fun _ => h1 (-1) (by decide) (by decide)⟩)
theorem zs_139 {s n : Int32} {Q : Int32 → zf_Me → Prop} (h0 : (0 ≤ s.toInt ∧ s.toInt < 8) → 0 ≤ n.toInt → n.toInt ≤ (m.1 72 s.toInt.toNat).toInt → Q 0 m) (h1 : ∀ x : Int32, -5 ≤ x.toInt → x.toInt ≤ -1 → Q x m) : wp_139 s n m Q :=
  zs_137 (fun g _ _ => ⟨fun _ => ⟨fun g1 => ⟨g, fun g2 => h0 g g1 g2, fun _ => h1 (-5) (by decide) (by decide)⟩, fun _ => h1 (-4) (by decide) (by decide)⟩, fun z => absurd rfl z⟩) (fun x a b => ⟨fun z => by omega, fun _ => h1 x (by omega) b⟩)
theorem zs_190 {s n : Int32} {Q : Int32 → zf_Me → Prop} (h0 : (0 ≤ s.toInt ∧ s.toInt < 8) → 0 ≤ n.toInt → n.toInt ≤ (m.1 72 s.toInt.toNat).toInt → n.toInt ≤ 60 → Q 0 m) (h1 : ∀ x : Int32, -6 ≤ x.toInt → x.toInt ≤ -1 → Q x m) : wp_190 s n m Q :=
  zs_139 (fun g a b => ⟨fun z => absurd rfl z, fun _ => ⟨fun c => h0 g a b c, fun _ => h1 (-6) (by decide) (by decide)⟩⟩) (fun x a b => ⟨fun _ => h1 x (by omega) b, fun z => by omega⟩)
theorem zy_142 (hJ : JM m) {s t : Int32} {Q : Int32 → zf_Me → Prop} (hq : ∀ (v : Int32) (m' : zf_Me), JM m' → zfd m m' → Q v m') : wp_142 s t m Q := by
  have K : ∀ v m', zgQ m m' → zB (zr m') → Q v m' := fun v m' f b => hq v m' (JM_q hJ f b) (zfd_q f)
  have R : ∀ {w : Int32}, (-8 < w.toInt ∧ w.toInt ≤ 0) → wp_125 w m Q := fun hw => zk_125 hw hJ.1 K
  have b := zB_r hJ.1
  refine ⟨fun _ => R (by decide), fun g => ⟨fun g2 => ⟨fun g3 => ⟨fun _ => zs_140 (by omega) (fun m' z f => K _ m' (zgc_q f) ?_), fun _ => zs_140 (by omega) (fun m' z f => K _ m' (zgc_q f) ?_)⟩, fun _ => R (by decide)⟩, fun _ => R (by decide)⟩⟩
  · rw [z]
    exact zB_addF hJ.1 (by show (m.1 63 0).toInt < 24; omega) (by omega) (by decide)
  · rw [z]
    exact zB_addF hJ.1 (by show (m.1 63 0).toInt < 24; omega) (by omega) (by decide)
theorem zy_143 (hJ : JM m) {k a : Int32} {Q : Int32 → zf_Me → Prop} (hq : ∀ (v : Int32) (m' : zf_Me), JM m' → zfd m m' → Q v m') : wp_143 k a m Q := by
  have K : ∀ v m', zgQ m m' → zB (zr m') → Q v m' := fun v m' f b => hq v m' (JM_q hJ f b) (zfd_q f)
  have R : ∀ {w : Int32}, (-8 < w.toInt ∧ w.toInt ≤ 0) → wp_125 w m Q := fun hw => zk_125 hw hJ.1 K
  have b := zB_r hJ.1
  refine ⟨fun _ => R (by decide), fun g => ⟨fun g2 => ⟨fun _ => R (by decide), fun g3 => ⟨fun g4 => ⟨fun g5 => zs_141 (by omega) (fun m' z f => K _ m' (zgc_q f) ?_), fun _ => R (by decide)⟩, fun _ => R (by decide)⟩⟩, fun _ => R (by decide)⟩⟩
  rw [z]
  exact zB_addP hJ.1 (by show (m.1 63 1).toInt < 6; omega) (by omega) (by omega)
theorem zy_144 (hJ : JM m) {f w : Int32} {Q : Int32 → zf_Me → Prop} (hq : ∀ (v : Int32) (m' : zf_Me), JM m' → zfd m m' → Q v m') : wp_144 f w m Q := by
  have K : ∀ v m', zgQ m m' → zB (zr m') → Q v m' := fun v m' f b => hq v m' (JM_q hJ f b) (zfd_q f)
  have K0 : ∀ v, Q v m := fun v => K v m zgr_refl hJ.1
  have R : ∀ {w : Int32}, (-8 < w.toInt ∧ w.toInt ≤ 0) → wp_126 w m Q := fun hw => zk_126 hw hJ.1 K
  have b := zB_r hJ.1
  exact zs_129 (fun g => ⟨fun z => (nomatch z), fun _ => ⟨fun _ => R (by decide), fun _ => ⟨fun _ => ⟨fun _ => ⟨by omega, K0 _⟩, fun _ => ⟨by omega, K0 _⟩⟩, fun _ => R (by decide)⟩⟩⟩) (fun _ => ⟨fun _ => R (by decide), fun z => (nomatch z)⟩)
theorem zy_145 (hJ : JM m) {f w : Int32} {Q : Int32 → zf_Me → Prop} (hq : ∀ (v : Int32) (m' : zf_Me), JM m' → zfd m m' → Q v m') : wp_145 f w m Q := by
  have K : ∀ v m', zgQ m m' → zB (zr m') → Q v m' := fun v m' f b => hq v m' (JM_q hJ f b) (zfd_q f)
  have K0 : ∀ v, Q v m := fun v => K v m zgr_refl hJ.1
  have R : ∀ {w : Int32}, (-8 < w.toInt ∧ w.toInt ≤ 0) → wp_125 w m Q := fun hw => zk_125 hw hJ.1 K
  have b := zB_r hJ.1
  exact zs_128 (fun g => ⟨fun _ => ⟨fun _ => R (by decide), fun _ => ⟨by omega, K0 _⟩, fun _ => ⟨by omega, K0 _⟩, fun _ => ⟨by omega, K0 _⟩, fun _ => ⟨fun _ => K0 _, fun _ => K0 _⟩⟩, fun z => (nomatch z)⟩) (fun _ => ⟨fun z => (nomatch z), fun _ => R (by decide)⟩)
theorem zy_150 (hJ : JM m) {w v : Int32} {Q : Int32 → zf_Me → Prop} (hq : ∀ (v : Int32) (m' : zf_Me), JM m' → zfd m m' → Q v m') : wp_150 w v m Q := by
  have K : ∀ v m', zgQ m m' → zB (zr m') → Q v m' := fun v m' f b => hq v m' (JM_q hJ f b) (zfd_q f)
  have R : ∀ {w : Int32}, (-8 < w.toInt ∧ w.toInt ≤ 0) → wp_125 w m Q := fun hw => zk_125 hw hJ.1 K
  refine ⟨fun _ => R (by decide), fun g => ⟨fun _ => R (by decide), fun g2 => zs_146 g (fun k => ⟨fun z => (nomatch z), fun _ => zs_149 (by omega) (fun x m' _ z f => K _ m' (zgc_q f) ?_)⟩) (fun _ => ⟨fun _ => R (by decide), fun z => (nomatch z)⟩)⟩⟩
  rw [z]
  exact zB_ask hJ.1 (by omega) k
theorem zy_151 (hJ : JM m) {p v : Int32} {Q : Int32 → zf_Me → Prop} (hq : ∀ (v : Int32) (m' : zf_Me), JM m' → zfd m m' → Q v m') : wp_151 p v m Q := by
  have K : ∀ v m', zgQ m m' → zB (zr m') → Q v m' := fun v m' f b => hq v m' (JM_q hJ f b) (zfd_q f)
  have R : ∀ {w : Int32}, (-8 < w.toInt ∧ w.toInt ≤ 0) → wp_125 w m Q := fun hw => zk_125 hw hJ.1 K
  have b := zB_r hJ.1
  refine zs_128 (fun g => ⟨fun _ => ⟨fun _ => R (by decide), fun g1 => ⟨fun g2 => ⟨by omega, by omega, fun m5 q5 => ?_⟩, fun _ => R (by decide)⟩⟩, fun z => (nomatch z)⟩) (fun _ => ⟨fun z => (nomatch z), fun _ => R (by decide)⟩)
  refine K _ m5 (by rw [q5]; exact zgr_u zgr_refl (by omega)) ?_
  rw [q5, zr_a4 (by omega)]
  exact zB_tire hJ.1 (by omega)
theorem zy_152 (hJ : JM m) {p : Int32} {Q : Int32 → zf_Me → Prop} (hq : ∀ (v : Int32) (m' : zf_Me), JM m' → zfd m m' → Q v m') : wp_152 p m Q := by
  have K : ∀ v m', zgQ m m' → zB (zr m') → Q v m' := fun v m' f b => hq v m' (JM_q hJ f b) (zfd_q f)
  have b := zB_r hJ.1
  have fin : -1 ≤ p.toInt ∧ p.toInt ≤ 5 → wq_152_19 p m Q := by
    intro g m1 q1
    refine K _ m1 (by rw [q1]; exact zgr_u zgr_refl (by omega)) ?_
    rw [q1, zr_w2]
    exact zB_bag hJ.1 g
  exact ⟨fun g => fin (by omega), fun _ => zs_128 (fun g => ⟨fun _ => fin (by omega), fun z => (nomatch z)⟩) (fun _ => ⟨fun z => (nomatch z), fun _ => zk_126 (by decide) hJ.1 K⟩)⟩
theorem zy_163 (hJ : JM m) {Q : Int32 → zf_Me → Prop} (hq : ∀ (v : Int32) (m' : zf_Me), JM m' → zfd m m' → Q v m') : wp_163 m Q := hq _ m hJ zfd_refl
theorem zy_171 (hJ : JM m) {p f : Int32} {Q : Int32 → zf_Me → Prop} (hq : ∀ (v : Int32) (m' : zf_Me), JM m' → zfd m m' → Q v m') : wp_171 p f m Q := by
  have K : ∀ v m', zgQ m m' → zB (zr m') → Q v m' := fun v m' f b => hq v m' (JM_q hJ f b) (zfd_q f)
  have R : ∀ {w : Int32}, (-8 < w.toInt ∧ w.toInt ≤ 0) → wp_125 w m Q := fun hw => zk_125 hw hJ.1 K
  have b := zB_r hJ.1
  refine zs_128 (fun g => ⟨fun _ => zs_129 (fun g2 => ⟨fun z => (nomatch z), fun _ => ⟨by omega, zs_165 hJ.1 (by omega) ?_ (fun x _ => K _ m zgr_refl hJ.1)⟩⟩) (fun _ => ⟨fun _ => R (by decide), fun z => (nomatch z)⟩), fun z => (nomatch z)⟩) (fun _ => ⟨fun z => (nomatch z), fun _ => R (by decide)⟩)
  have := zB_r2 hJ.1 (k := f.toInt.toNat) (by omega)
  exact ⟨this.1, this.2.1⟩
theorem zy_172 (hJ : JM m) {a : Int32} {Q : Int32 → zf_Me → Prop} (hq : ∀ (v : Int32) (m' : zf_Me), JM m' → zfd m m' → Q v m') : wp_172 a m Q := by
  have K : ∀ v m', zgQ m m' → zB (zr m') → Q v m' := fun v m' f b => hq v m' (JM_q hJ f b) (zfd_q f)
  have R : ∀ {w : Int32}, (-8 < w.toInt ∧ w.toInt ≤ 0) → wp_125 w m Q := fun hw => zk_125 hw hJ.1 K
  exact ⟨fun _ => R (by decide), fun _ => ⟨fun _ => R (by decide), fun g => zs_167 hJ.1 g (fun b _ => ⟨fun _ => K _ m zgr_refl hJ.1, fun _ => K _ m zgr_refl hJ.1⟩)⟩⟩
theorem zs_173 (hB : zB (zr m)) {Q : Int32 → zf_Me → Prop} (hq : Q (Int32.ofNat (zbits (zr m) 10)) m) : wp_173 m Q := by
  have e1 : (1 : Int32).toInt = 1 := rfl
  have lp : ∀ (n : Nat) (v1 v2 : Int32), 0 ≤ v2.toInt → v2.toInt ≤ 10 → 10 - v2.toInt < n → v1 = Int32.ofNat (zbits (zr m) v2.toInt.toNat) → wq_173_4 Q n v1 v2 m := by
    intro n
    induction n with
    | zero => intro v1 v2 h0 h1 h2; omega
    | succ n ih =>
      intro v1 v2 h0 h1 h2 h3
      refine ⟨fun g => ?_, fun g => zs_167 hB g (fun b hb => ?_)⟩
      · rw [h3, show v2.toInt = 10 by omega]
        exact hq
      · have s := fb_addI (x := v2) (y := 1) (by omega) (by omega)
        have e2 : (v2 + 1).toInt.toNat = v2.toInt.toNat + 1 := by omega
        have ev : v2 = Int32.ofNat v2.toInt.toNat := zn_of _ _ (by omega)
        have ej : ((v2.toInt.toNat : Nat) : Int) = v2.toInt := by omega
        refine ⟨fun e => ih _ _ (by omega) (by omega) (by omega) ?_, fun e => ih _ _ (by omega) (by omega) (by omega) ?_⟩
        · have st : zbits (zr m) (v2.toInt.toNat + 1) = zbits (zr m) v2.toInt.toNat := by
            show (if zmay (zr m) ((v2.toInt.toNat : Nat) : Int) then _ else _) = _
            rw [ej, if_neg (zno hb e)]
          rw [h3, e2, st]
        · rw [e2]
          have st : zbits (zr m) (v2.toInt.toNat + 1) = zbits (zr m) v2.toInt.toNat + 2 ^ v2.toInt.toNat := by
            show (if zmay (zr m) ((v2.toInt.toNat : Nat) : Int) then _ else _) = _
            rw [ej, if_pos (hb.mp e)]
          rw [st, ← zbits_or v2.toInt.toNat (by omega) _ (zbits_lt _ _), h3, ← ev]
  exact ⟨12, lp 12 0 0 (by decide) (by decide) (by decide) rfl⟩
theorem zy_173 (hJ : JM m) {Q : Int32 → zf_Me → Prop} (hq : ∀ (v : Int32) (m' : zf_Me), JM m' → zfd m m' → Q v m') : wp_173 m Q := zs_173 hJ.1 (hq _ m hJ zfd_refl)
theorem zy_185 (hJ : JM m) {f : Int32} {Q : Int32 → zf_Me → Prop} (hq : ∀ (v : Int32) (m' : zf_Me), JM m' → zfd m m' → Q v m') : wp_185 f m Q := by
  have K : ∀ v m', zgQ m m' → zB (zr m') → Q v m' := fun v m' f b => hq v m' (JM_q hJ f b) (zfd_q f)
  have R : ∀ {w : Int32}, (-8 < w.toInt ∧ w.toInt ≤ 0) → wp_125 w m Q := fun hw => zk_125 hw hJ.1 K
  have b := zB_r hJ.1
  have e1 : (1 : Int32).toInt = 1 := rfl
  refine zs_129 (fun g => ⟨fun z => (nomatch z), fun _ => ⟨fun _ => ?_, fun _ => R (by decide)⟩⟩) (fun _ => ⟨fun _ => R (by decide), fun z => (nomatch z)⟩)
  have sb := zB_r2 hJ.1 (k := f.toInt.toNat) (by omega)
  have lp : ∀ (n : Nat) (v2 v3 : Int32), 0 ≤ v2.toInt ∧ v2.toInt < 6 → 0 ≤ v3.toInt → v3.toInt ≤ 6 → 6 - v3.toInt < n → wq_185_26 f Q n v2 v3 m := by
    intro n
    induction n with
    | zero => intro v2 v3 k0 k1 k2 k3; omega
    | succ n ih =>
      intro v2 v3 k0 k1 k2 k3
      refine ⟨fun _ => K _ m zgr_refl hJ.1, fun g2 => ⟨by omega, zs_165 hJ.1 (by omega) ⟨sb.1, sb.2.1⟩ (fun x _ => ⟨by omega, zs_165 hJ.1 k0 ⟨sb.1, sb.2.1⟩ (fun y _ => ?_)⟩)⟩⟩
      have t := fb_addI (x := v3) (y := 1) (by omega) (by omega)
      exact ⟨fun _ => ih _ _ k0 (by omega) (by omega) (by omega), fun _ => ih _ _ (by omega) (by omega) (by omega) (by omega)⟩
  exact ⟨8, lp 8 0 1 (by decide) (by decide) (by decide) (by decide)⟩
theorem zy_200 (hJ : JM m) {Q : Int32 → zf_Me → Prop} (hq : ∀ (v : Int32) (m' : zf_Me), JM m' → zfd m m' → Q v m') : wp_200 m Q := by
  have K : ∀ v m', zgQ m m' → zB (zr m') → Q v m' := fun v m' f b => hq v m' (JM_q hJ f b) (zfd_q f)
  have e1 : (1 : Int32).toInt = 1 := rfl
  have b := hJ.1.1
  intro m1 q1 m3 q3 m5 q5 m7 q7
  have f7 : zgc m m7 := by
    rw [q7, q5, q3, q1]
    exact zgr_u (zgr_u (zgr_u (zgr_u zgr_refl (by omega)) (by omega)) (by omega)) (by omega)
  have c : (m5.1 63 4).toInt = zr m 5 0 := by
    rw [q5, zf_u4 (by decide), q3, zf_u4 (by decide), q1, zf_u4 (by decide)]
    rfl
  have z7 : zr m7 = zU (zU (zU (zU (zr m) 5 10 0) 5 11 0) 5 9 0) 5 8 (zr m 5 0) := by
    rw [q7, zr_w3, c, q5, zr_w6, q3, zr_w11, q1, zr_w10]
    rfl
  have hB7 : zB (zr m7) := by
    rw [z7]
    refine ⟨?_, zB2_u5 (zB2_u5 (zB2_u5 (zB2_u5 hJ.1.2.1))), zB3_u5 (zB3_u5 (zB3_u5 (zB3_u5 hJ.1.2.2)))⟩
    show zB1 (zr m 5 0) (zr m 5 1) (zr m 5 2) (zr m 5 3) (zr m 5 4) (zr m 5 5) (zr m 5 6) (zr m 5 7) (zr m 5 0) 0 0 0 (zr m 5 12)
    omega
  have lp : ∀ (n : Nat) (v1 v2 : Int32) (mj : zf_Me), 0 ≤ v2.toInt → v2.toInt ≤ 6 → 6 - v2.toInt < n → zB (zr mj) → zgc m mj → wq_200_30 Q n v1 v2 mj := by
    intro n
    induction n with
    | zero => intro v1 v2 mj h0 h1 h2; omega
    | succ n ih =>
      intro v1 v2 mj h0 h1 h2 hB hf
      have bj := zB_r hB
      refine ⟨fun _ => K _ mj (zgc_q hf) hB, fun g => ⟨by omega, fun m9 q9 => ?_⟩⟩
      have s := fb_addI (x := v2) (y := 1) (by omega) (by omega)
      refine ih _ _ m9 (by omega) (by omega) (by omega) ?_ (by rw [q9]; exact zgr_u hf (by omega))
      rw [q9, zr_a4 (by omega)]
      exact zB_tire hB (by decide)
  exact ⟨8, lp 8 _ 0 m7 (by decide) (by decide) (by decide) hB7 f7⟩
theorem zy_201 (hJ : JM m) {v : Int32} {Q : Int32 → zf_Me → Prop} (hq : ∀ (v : Int32) (m' : zf_Me), JM m' → zfd m m' → Q v m') : wp_201 v m Q := by
  have K : ∀ v m', zgQ m m' → zB (zr m') → Q v m' := fun v m' f b => hq v m' (JM_q hJ f b) (zfd_q f)
  intro m1 q1
  refine K _ m1 (by rw [q1]; exact zgr_u zgr_refl (by omega)) ?_
  rw [q1, zr_w12]
  exact zB_seed hJ.1
theorem zy_208 (hJ : JM m) {Q : Int32 → zf_Me → Prop} (hq : ∀ (v : Int32) (m' : zf_Me), JM m' → zfd m m' → Q v m') : wp_208 m Q := by
  intro m1 q1
  have z1 : zr m1 = zr m := by rw [q1, zrk_44 (by decide)]
  refine zs_161s (by decide) rfl (by decide) (fun m4 a4 f4 z4 => ?_)
  have F : zgr' (fun a k => (a = 63 ∧ k = 52) ∨ a = 80) m m4 := by
    refine zgr_trans (?_ : zgr' _ m m1) (zgr_mono f4 (fun a k z => by omega))
    rw [q1]
    exact zgr_u zgr_refl (by omega)
  have B : zB (zr m) := hJ.1
  refine hq _ m4 ⟨by rw [z4, z1]; exact B, fun j hj => ?_, Or.inr ?_, fun k hk => ?_, fun k hk => ?_⟩ (zfd_of F (fun a k z => by omega))
  · rw [F.1 70 j (by omega), F.1 72 j (by omega), F.1 73 j (by omega)]
    exact hJ.2.1 j hj
  · have a4' : zA 80 0 m4 = zr m1 := a4
    rw [a4', z1]
    exact B
  · rw [F.1 76 k (by omega)]
    exact hJ.2.2.2.1 k hk
  · rw [F.1 77 k (by omega)]
    exact hJ.2.2.2.2 k hk
theorem zy_209 (hJ : JM m) {Q : Int32 → zf_Me → Prop} (hq : ∀ (v : Int32) (m' : zf_Me), JM m' → zfd m m' → Q v m') : wp_209 m Q := by
  have K : ∀ v m', zgQ m m' → zB (zr m') → Q v m' := fun v m' f b => hq v m' (JM_q hJ f b) (zfd_q f)
  have e1 : (1 : Int32).toInt = 1 := rfl
  refine ⟨fun g => zs_161b (by decide) (by decide) (by decide) (fun m2 z2 f2 => ?_), fun _ => zk_125 (by decide) hJ.1 K⟩
  have B2 : zB (zr m2) := by
    rw [z2]
    exact hJ.2.2.1.resolve_left g
  have J2 := JM_q hJ (zgc_q f2) B2
  have d2 := zfd_q (zgc_q f2)
  have lp : ∀ (n : Nat) (v : Int32) (mj : zf_Me), 0 ≤ v.toInt → v.toInt ≤ 8 → 8 - v.toInt < n → JM mj → zfd m mj → wq_209_26 Q n v mj := by
    intro n
    induction n with
    | zero => intro v mj h0 h1 h2; omega
    | succ n ih =>
      intro v mj h0 h1 h2 hj hd
      refine ⟨fun _ => hq _ mj hj hd, fun g1 => ?_⟩
      have s := fb_addI (x := v) (y := 1) (by omega) (by omega)
      have nx : ∀ m', JM m' → zfd m m' → wq_209_26 Q n (v + 1) m' := fun m' => ih _ m' (by omega) (by omega) (by omega)
      refine ⟨by omega, fun _ => nx mj hj hd, fun _ => ⟨by omega, fun _ => nx mj hj hd, fun _ => ⟨by omega, fun m3 q3 => nx m3 (JM_s hj (fun a ha => by rw [q3, zf_u1 (by omega)]) (fun j hj8 => ?_)) (fun a ha => ⟨by rw [q3, zf_u1 (by omega)]; exact (hd a ha).1, by rw [q3]; exact (hd a ha).2⟩)⟩⟩⟩
      have b := hj.2.1 j hj8
      rw [q3, zf_u1 (a := 72) (by decide), zf_u1 (a := 73) (by decide)]
      by_cases e : j = v.toInt.toNat
      · rw [e, zf_u3]
        rw [e] at b
        exact ⟨by decide, b.2.1, fun z => absurd z (by decide)⟩
      · rw [zf_u4 e]
        exact b
  exact ⟨10, lp 10 0 m2 (by decide) (by decide) (by decide) J2 d2⟩
theorem zy_210 (hJ : JM m) {w : Int32} {Q : Int32 → zf_Me → Prop} (hq : ∀ (v : Int32) (m' : zf_Me), JM m' → zfd m m' → Q v m') : wp_210 w m Q := by
  have K : ∀ v, Q v m := fun v => hq v m hJ zfd_refl
  have e6 : (6 : Int32).toInt = 6 := rfl
  have e10 : (10 : Int32).toInt = 10 := rfl
  have t43 : wq_210_43 w m Q := ⟨fun _ => K _, fun _ => K _, fun _ => K _, fun _ => K _, fun _ => K _, fun _ => K _, fun _ => K _, fun _ => K _, fun _ => K _, fun _ => K _, fun _ => K _, fun _ => K _, fun _ => K _, fun _ => K _, fun _ => K _, fun _ => K _, fun _ => K _, fun _ => K _, fun _ => K _, fun _ => K _, fun _ => K _, fun _ => zs_164 (fun b _ => ⟨fun _ => K _, fun _ => K _⟩)⟩
  have t22 : wq_210_22 w m Q := by
    refine ⟨fun _ => t43, fun g => ⟨fun _ => t43, fun g2 => ?_⟩⟩
    have s := fb_subI (x := w) (y := 6) (by omega) (by omega)
    exact zs_147 (by omega) (fun x _ => K _)
  refine ⟨fun _ => t22, fun g => ⟨fun _ => t22, fun g2 => ?_⟩⟩
  have s := fb_subI (x := w) (y := 10) (by omega) (by omega)
  exact ⟨by omega, K _⟩
theorem zy_207 (hJ : JM m) {i : Int32} {Q : Int32 → zf_Me → Prop} (hq : ∀ (v : Int32) (m' : zf_Me), JM m' → zfd m m' → Q v m') : wp_207 i m Q :=
  ⟨fun _ => hq _ m hJ zfd_refl, fun g => ⟨fun _ => hq _ m hJ zfd_refl, fun g2 => ⟨fun _ => hq _ m hJ zfd_refl, fun _ => ⟨⟨g, g2⟩, hq _ m hJ zfd_refl⟩⟩⟩⟩
end
