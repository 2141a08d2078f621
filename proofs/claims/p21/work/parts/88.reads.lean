/-! part 88: the class reads a text, exactly -/
def zTx (T : zT) (m : zf_Me) : Prop := (m.1 35 2).toInt = T.1 ∧ T.1 ≤ 160 ∧ ∀ i : Nat, (i : Int) < T.1 → (m.1 43 i).toInt = T.2 i
def zPs (T : zT) (s : Int) (m : zf_Me) : Prop := zTx T m ∧ (m.1 35 3).toInt = s ∧ 0 ≤ s ∧ s ≤ T.1
def zfk (m m' : zf_Me) : Prop := zfr (fun a => 35 ≤ a ∧ a ≤ 42) m m' ∧ m'.1 35 2 = m.1 35 2 ∧ m'.1 35 5 = m.1 35 5
theorem zfk_refl {m : zf_Me} : zfk m m := ⟨zfr_refl, rfl, rfl⟩
theorem zfk_t {a b c : zf_Me} (h : zfk a b) (k : zfk b c) : zfk a c := ⟨zfr_trans h.1 k.1, k.2.1.trans h.2.1, k.2.2.trans h.2.2⟩
theorem zfk_u {m m' : zf_Me} {k : Nat} {x : Int32} (h : zfk m m') (h2 : ¬ k = 2) (h5 : ¬ k = 5) : zfk m (zf_u m' 35 k x) := ⟨zfr_u h.1 (by omega), (zf_u4 (fun z => h2 z.symm)).trans h.2.1, (zf_u4 (fun z => h5 z.symm)).trans h.2.2⟩
theorem zfk_w {m m' : zf_Me} (f : zfr (fun a => 36 ≤ a ∧ a ≤ 42) m m') : zfk m m' := ⟨zfr_mono f (fun a ha => by omega), by rw [f.1 35 (by omega)], by rw [f.1 35 (by omega)]⟩
theorem zTx_k {T : zT} {m m' : zf_Me} (h : zTx T m) (f : zfk m m') : zTx T m' := ⟨by rw [f.2.1]; exact h.1, h.2.1, fun i hi => by rw [f.1.1 43 (by omega)]; exact h.2.2 i hi⟩
section
variable {m : zf_Me} {T : zT} {s : Int}
theorem zPs_l (h : zPs T s m) (hs : s < T.1) : (m.1 43 (m.1 35 3).toInt.toNat).toInt = T.2 s.toNat := by
  rw [h.2.1]
  exact h.1.2.2 _ (by have := h.2.2.1; omega)
theorem zPs_pl {m' : zf_Me} (h : zTx T m') {p : Int} (e : (m'.1 35 3).toInt = p) (h0 : 0 ≤ p) (h1 : p ≤ T.1) : zPs T p m' := ⟨h, e, h0, h1⟩
theorem zs_39x (h : zPs T s m) {c : Int32} {Q : Bool → zf_Me → Prop} (ht : zis T s c.toInt → ∀ m', zfk m m' → zv 36 37 42 m' = zv 36 37 42 m → zPs T (s + 1) m' → m'.1 35 6 = m.1 35 6 → Q true m') (hf : ¬ zis T s c.toInt → ∀ m', zfk m m' → zv 36 37 42 m' = zv 36 37 42 m → (m'.1 35 6).toInt = s → zPs T s m' → Q false m') : wp_39 c m Q := by
  have e1 : (1 : Int32).toInt = 1 := rfl
  obtain ⟨hx, hp, h0, h1⟩ := h
  have sz := hx.1
  have sl := hx.2.1
  have bad : ¬ zis T s c.toInt → ∀ m1, m1 = zf_u m 35 6 (m.1 35 3) → Q false m1 := fun n m1 q1 => by
    rw [q1]
    have f := zfk_u (k := 6) (x := m.1 35 3) (zfk_refl (m := m)) (by decide) (by decide)
    exact hf n _ f zv36_35 (by rw [zf_u3]; exact hp) (zPs_pl (zTx_k hx f) (by rw [zf_u4 (by decide)]; exact hp) h0 h1)
  refine ⟨fun g => bad (fun z => by have := z.1; omega), fun g => ⟨by omega, fun e m3 q3 => ?_, fun ne => bad (fun z => ne ?_)⟩⟩
  · have a := fb_addI (x := m.1 35 3) (y := 1) (by omega) (by omega)
    have l := zPs_l ⟨hx, hp, h0, h1⟩ (by omega)
    rw [q3]
    have f := zfk_u (k := 3) (x := m.1 35 3 + 1) (zfk_refl (m := m)) (by decide) (by decide)
    exact ht ⟨by omega, by rw [← l]; exact e⟩ _ f zv36_35 (zPs_pl (zTx_k hx f) (by rw [zf_u3]; omega) (by omega) (by omega)) (zf_u4 (by decide))
  · rw [zPs_l ⟨hx, hp, h0, h1⟩ z.1]
    exact z.2
theorem zs_41x (h : zPs T s m) {Q : Bool → zf_Me → Prop} (hq : ∀ b, (b = true ↔ zdg T s) → Q b m) : wp_41 m Q := by
  obtain ⟨hx, hp, h0, h1⟩ := h
  have sz := hx.1
  have sl := hx.2.1
  refine ⟨fun g => hq false (zb_f (fun z => by have := z.1; omega)), fun g => ?_⟩
  have l := zPs_l ⟨hx, hp, h0, h1⟩ (by omega)
  exact ⟨by omega, fun g2 => hq false (zb_f (fun z => by have := z.2.1; omega)), fun g2 => ⟨by omega, fun g3 => hq false (zb_f (fun z => by have := z.2.2; omega)), fun g3 => hq true (zb_t ⟨by omega, by omega, by omega⟩)⟩⟩
theorem zs_40x (h : zPs T s m) {lo hi : Int32} {Q : Int32 → zf_Me → Prop} (hq : ∀ (x : Int32) (m' : zf_Me), zfk m m' → zv 36 37 42 m' = zv 36 37 42 m → x.toInt = (znum T s lo.toInt hi.toInt).1 → ((znum T s lo.toInt hi.toInt).1 = -1 → (m'.1 35 6).toInt = (znum T s lo.toInt hi.toInt).2) → (¬ (znum T s lo.toInt hi.toInt).1 = -1 → m'.1 35 6 = m.1 35 6 ∧ zPs T (znum T s lo.toInt hi.toInt).2 m' ∧ (m'.1 35 4).toInt = s + 1) → Q x m') : wp_40 lo hi m Q := by
  have e0 : (0 : Int32).toInt = 0 := rfl
  have e1 : (1 : Int32).toInt = 1 := rfl
  have e10 : (10 : Int32).toInt = 10 := rfl
  have e48 : (48 : Int32).toInt = 48 := rfl
  have en : (-1 : Int32).toInt = -1 := rfl
  refine zs_39x (c := 32) h (fun hz m2 f2 z2 h2 k2 => ⟨fun _ m3 q3 => ?_, fun z => (nomatch z)⟩) (fun hz m2 f2 z2 k2 _ => ⟨fun z => (nomatch z), fun _ => ?_⟩)
  · have f3 : zfk m m3 := by rw [q3]; exact zfk_u f2 (by decide) (by decide)
    have z3 : zv 36 37 42 m3 = zv 36 37 42 m := by rw [q3, zv36_35, z2]
    have p3 : (m3.1 35 3).toInt = s + 1 := by rw [q3, zf_u4 (by decide)]; exact h2.2.1
    have h3 : zPs T (s + 1) m3 := zPs_pl (zTx_k h.1 f3) p3 h2.2.2.1 h2.2.2.2
    have n3 : (m3.1 35 4).toInt = s + 1 := by rw [q3, zf_u3]; exact h2.2.1
    have k3 : m3.1 35 6 = m.1 35 6 := by rw [q3, zf_u4 (by decide)]; exact k2
    have fin : ∀ (x : Int32) (mj : zf_Me) (q : Int), zfk m mj → zv 36 37 42 mj = zv 36 37 42 m → zPs T q mj → mj.1 35 6 = m.1 35 6 → (mj.1 35 4).toInt = s + 1 → (q = s + 1 → ¬ zdg T (s + 1)) → (¬ q = s + 1 → zdg T (s + 1) ∧ zdgs T (s + 1) = (x.toInt, q)) → wq_40_71 lo hi x mj Q := by
      intro x mj q fj zj hj kj nj c1 c2
      have no : znum T s lo.toInt hi.toInt = (-1, s + 1) → ∀ m', m' = zf_u mj 35 6 (mj.1 35 4) → Q (-1) m' := fun hn m' q' => by
        rw [q']
        exact hq _ _ (zfk_u fj (by decide) (by decide)) (by rw [zv36_35, zj]) (by rw [hn]; rfl) (fun _ => by rw [hn, zf_u3]; exact nj) (fun z => absurd (by rw [hn]) z)
      have pj := hj.2.1
      refine ⟨fun e => no ?_, fun ne => ?_⟩
      · unfold znum
        rw [if_neg (fun z => z hz), if_pos (c1 (by omega))]
      · have c := c2 (by omega)
        have N : znum T s lo.toInt hi.toInt = if x.toInt < lo.toInt ∨ hi.toInt < x.toInt then (-1, s + 1) else (x.toInt, q) := by
          unfold znum
          rw [if_neg (fun z => z hz), if_neg (fun z => z c.1), c.2]
        have b := zdgs_b c.1
        rw [c.2] at b
        have b1 : 0 ≤ x.toInt := b.1
        refine ⟨fun g => no (by rw [N, if_pos (Or.inl g)]), fun g => ⟨fun g2 => ?_, fun g2 => no (by rw [N, if_pos (Or.inr g2)])⟩⟩
        rw [if_neg (by omega)] at N
        exact hq x mj fj zj (by rw [N]) (fun z => by rw [N] at z; exact absurd (show x.toInt = -1 from z) (by omega)) (fun _ => by rw [N]; exact ⟨kj, hj, nj⟩)
    refine ⟨4, fun z => absurd z (by decide), fun _ => zs_41x h3 (fun b hb => ⟨fun e => fin 0 m3 (s + 1) f3 z3 h3 k3 n3 (fun _ => zno hb e) (fun z => absurd rfl z), fun e => ?_⟩)⟩
    have d := hb.mp e
    have s3 := h3.1.1
    have l3 := zPs_l h3 d.1
    have s2 := h3.1.2.1
    have s0 := h.2.2.1
    refine ⟨by omega, fun m13 q13 => ?_⟩
    have a13 := fb_addI (x := m3.1 35 3) (y := 1) (by omega) (by omega)
    have f13 : zfk m m13 := by rw [q13]; exact zfk_u f3 (by decide) (by decide)
    have z13 : zv 36 37 42 m13 = zv 36 37 42 m := by rw [q13, zv36_35, z3]
    have h13 : zPs T (s + 1 + 1) m13 := zPs_pl (zTx_k h.1 f13) (by rw [q13, zf_u3]; omega) (by omega) (by omega)
    have n13 : (m13.1 35 4).toInt = s + 1 := by rw [q13, zf_u4 (by decide)]; exact n3
    have k13 : m13.1 35 6 = m.1 35 6 := by rw [q13, zf_u4 (by decide)]; exact k3
    have x1 : (0 * 10 + m3.1 43 (m3.1 35 3).toInt.toNat - 48).toInt = T.2 (s + 1).toNat - 48 := by
      have sm : ((0 : Int32) * 10).toInt = 0 := by decide
      have sa := fb_addI (x := 0 * 10) (y := m3.1 43 (m3.1 35 3).toInt.toNat) (by omega) (by omega)
      have ss := fb_subI (x := 0 * 10 + m3.1 43 (m3.1 35 3).toInt.toNat) (y := 48) (by omega) (by omega)
      omega
    refine ⟨fun z => absurd z (by decide), fun _ => zs_41x h13 (fun b2 hb2 => ⟨fun e2 => fin _ m13 (s + 1 + 1) f13 z13 h13 k13 n13 (fun z => by omega) (fun _ => ⟨d, ?_⟩), fun e2 => ?_⟩)⟩
    · unfold zdgs
      rw [if_neg (zno hb2 e2), x1]
    · have d2 := hb2.mp e2
      have l13 := zPs_l h13 d2.1
      have s13 := h13.1.1
      refine ⟨by have := h13.2.1; omega, fun m14 q14 => ?_⟩
      have a14 := fb_addI (x := m13.1 35 3) (y := 1) (by have := h13.2.1; omega) (by have := h13.2.1; omega)
      have f14 : zfk m m14 := by rw [q14]; exact zfk_u f13 (by decide) (by decide)
      have z14 : zv 36 37 42 m14 = zv 36 37 42 m := by rw [q14, zv36_35, z13]
      have h14 : zPs T (s + 1 + 2) m14 := zPs_pl (zTx_k h.1 f14) (by rw [q14, zf_u3]; have := h13.2.1; omega) (by omega) (by omega)
      have n14 : (m14.1 35 4).toInt = s + 1 := by rw [q14, zf_u4 (by decide)]; exact n13
      have k14 : m14.1 35 6 = m.1 35 6 := by rw [q14, zf_u4 (by decide)]; exact k13
      refine ⟨fun _ => fin _ m14 (s + 1 + 2) f14 z14 h14 k14 n14 (fun z => by omega) (fun _ => ⟨d, ?_⟩), fun z => absurd z (by decide)⟩
      unfold zdgs
      rw [if_pos d2]
      have sm := fb_mulI (x := 0 * 10 + m3.1 43 (m3.1 35 3).toInt.toNat - 48) (y := 10) (by rw [x1, e10]; omega) (by rw [x1, e10]; omega)
      rw [x1, e10] at sm
      have sa := fb_addI (x := (0 * 10 + m3.1 43 (m3.1 35 3).toInt.toNat - 48) * 10) (y := m13.1 43 (m13.1 35 3).toInt.toNat) (by omega) (by omega)
      have ss := fb_subI (x := (0 * 10 + m3.1 43 (m3.1 35 3).toInt.toNat - 48) * 10 + m13.1 43 (m13.1 35 3).toInt.toNat) (y := 48) (by omega) (by omega)
      have x2 : ((0 * 10 + m3.1 43 (m3.1 35 3).toInt.toNat - 48) * 10 + m13.1 43 (m13.1 35 3).toInt.toNat - 48).toInt = (T.2 (s + 1).toNat - 48) * 10 + T.2 (s + 1 + 1).toNat - 48 := by omega
      rw [x2]
  · have N : znum T s lo.toInt hi.toInt = (-1, s) := if_pos hz
    exact hq _ m2 f2 z2 (by rw [N]; rfl) (fun _ => by rw [N]; exact k2) (fun z => absurd (by rw [N]) z)
theorem zs_28x {w : Int32} (hw : 0 ≤ w.toInt ∧ w.toInt < 12) {Q : Bool → zf_Me → Prop} (hq0 : ∀ b, (b = true ↔ zroomB (zv 36 37 42 m) w.toInt.toNat = true) → Q b m) : wp_28 w m Q := by
  have hq : ∀ b, (b = true ↔ ((w.toInt.toNat = 0 ∨ w.toInt.toNat = 1 → zv 36 37 42 m 5 5 < 24) ∧ (w.toInt.toNat = 2 → 0 < zv 36 37 42 m 5 5) ∧ (w.toInt.toNat = 3 → zv 36 37 42 m 5 6 < 6))) → Q b m := fun b hb => hq0 b (by rw [zroom_i]; exact hb)
  have p5 : zv 36 37 42 m 5 5 = (m.1 37 4).toInt := rfl
  have p6 : zv 36 37 42 m 5 6 = (m.1 37 5).toInt := rfl
  refine ⟨fun g => hq true (zb_t ?_), fun g => ⟨fun k => hq false (zb_f ?_), fun k => hq true (zb_t ?_)⟩, fun g => ⟨fun k => hq false (zb_f ?_), fun k => hq true (zb_t ?_)⟩, fun g => ⟨fun k => hq false (zb_f ?_), fun k => hq true (zb_t ?_)⟩, fun g => ⟨fun k => hq false (zb_f ?_), fun k => hq true (zb_t ?_)⟩⟩ <;> omega
theorem zs_37x (h : zTx T m) {t : Nat} (ht : t < 12) {p n : Int32} (hs : 0 ≤ p.toInt ∧ p.toInt ≤ 160) (hn : 1 ≤ n.toInt ∧ n.toInt ≤ 8) {Q : Bool → zf_Me → Prop} (hq : ∀ b, (b = true ↔ n.toInt.toNat ≤ zln t ∧ zMb T p.toInt t n.toInt.toNat = true) → Q b m) : wp_37 t p n m Q := by
  have e1 : (1 : Int32).toInt = 1 := rfl
  have sz := h.1
  have sl := h.2.1
  have l := (zk_len t ht).1
  have zl : zln t = zx_sl.getD t 0 := rfl
  have lb := zk_lenb t ht
  have a := fb_addI (x := p) (y := n) (by omega) (by omega)
  refine (⟨fun g => hq false (zb_f (fun z => by have := z.1; omega)), fun g => ⟨fun g2 => ?_, fun g2 => hq false (zb_f (fun z => ?_))⟩⟩ : (n.toInt > (Int32.ofNat (zx_sl.getD t 0)).toInt → Q false m) ∧ (n.toInt ≤ (Int32.ofNat (zx_sl.getD t 0)).toInt → (((p + n)).toInt ≤ ((m.1 35 2)).toInt → (∃ n23, wq_37_23 t p n Q n23 0 m)) ∧ (((p + n)).toInt > ((m.1 35 2)).toInt → Q false m)))
  · have lp : ∀ (k : Nat) (v : Int32), 0 ≤ v.toInt → v.toInt ≤ n.toInt → n.toInt - v.toInt < k → (∀ i : Nat, (i : Int) < v.toInt → zis T (p.toInt + i) (zch t i)) → wq_37_23 t p n Q k v m := by
      intro k
      induction k with
      | zero => intro v k0 k1 k2; omega
      | succ k ih =>
        intro v k0 k1 k2 k3
        refine ⟨fun g3 => hq true (zb_t ⟨by omega, (zMb_i _).mpr (fun i hi => k3 i (by omega))⟩), fun g3 => ?_⟩
        have b := fb_addI (x := p) (y := v) (by omega) (by omega)
        have c := fb_addI (x := v) (y := 1) (by omega) (by omega)
        have le := h.2.2 (p + v).toInt.toNat (by omega)
        have en : (p + v).toInt.toNat = (p.toInt + (v.toInt.toNat : Nat)).toNat := by omega
        refine ⟨by omega, ⟨by omega, by omega⟩, fun e => ih _ (by omega) (by omega) (by omega) (fun i hi => ?_), fun ne => hq false (zb_f (fun z => ne ?_))⟩
        · by_cases q : i = v.toInt.toNat
          · rw [q]
            refine ⟨by omega, ?_⟩
            rw [← en, ← le]
            exact e
          · exact k3 i (by omega)
        · have y := (zMb_i _).mp z.2 v.toInt.toNat (by omega)
          rw [le, en]
          exact y.2
    exact ⟨10, lp 10 0 (by decide) (by show (0 : Int) ≤ _; omega) (by show n.toInt - 0 < _; omega) (fun i hi => absurd (show (i : Int) < 0 from hi) (by omega))⟩
  · have y := ((zMb_i _).mp z.2 (n.toInt.toNat - 1) (by omega)).1
    omega
theorem zs_36x (h : zTx T m) {p n : Int32} (hs : 0 ≤ p.toInt ∧ p.toInt ≤ 160) (hn : 1 ≤ n.toInt ∧ n.toInt ≤ 8) {Q : Int32 → zf_Me → Prop} (hq : ∀ x : Int32, (x.toInt = -1 ∧ ¬ zany T p.toInt n.toInt.toNat 12 = true ∨ (0 ≤ x.toInt ∧ x.toInt < 12) ∧ n.toInt.toNat ≤ zln x.toInt.toNat ∧ zMb T p.toInt x.toInt.toNat n.toInt.toNat = true) → Q x m) : wp_36 p n m Q := by
  have e1 : (1 : Int32).toInt = 1 := rfl
  have lp : ∀ (k : Nat) (v : Int32), 0 ≤ v.toInt → v.toInt ≤ 12 → 12 - v.toInt < k → (∀ w : Nat, (w : Int) < v.toInt → ¬ (n.toInt.toNat ≤ zln w ∧ zMb T p.toInt w n.toInt.toNat = true)) → wq_36_2 p n Q k v m := by
    intro k
    induction k with
    | zero => intro v k0 k1 k2; omega
    | succ k ih =>
      intro v k0 k1 k2 k3
      refine ⟨fun g => hq (-1) (Or.inl ⟨rfl, fun z => ?_⟩), fun g => zy_38 (fun t ht et => zs_37x h ht hs hn (fun b hb => ⟨fun e => ?_, fun e => ?_⟩))⟩
      · obtain ⟨w, w1, w2⟩ := (zany_i 12).mp z
        exact k3 w (by omega) w2
      · have c := fb_addI (x := v) (y := 1) (by omega) (by omega)
        refine ih _ (by omega) (by omega) (by omega) (fun w hw => ?_)
        by_cases q : w = t
        · rw [q]
          exact zno hb e
        · have := et k0 g
          exact k3 w (by omega)
      · have tv := et k0 g
        have y := hb.mp e
        rw [show t = v.toInt.toNat by omega] at y
        exact hq v (Or.inr ⟨⟨k0, g⟩, y⟩)
  exact ⟨14, lp 14 0 (by decide) (by decide) (by decide) (fun w hw => absurd (show (w : Int) < 0 from hw) (by omega))⟩
theorem zs_35x (h : zPs T s m) {Q : Int32 → zf_Me → Prop} (hn : zfind T s 12 = 12 → ∀ m', zfk m m' → zv 36 37 42 m' = zv 36 37 42 m → (m'.1 35 6).toInt = s + zfar T s 8 → Q (-1) m') (hy : ∀ (x : Int32) (m' : zf_Me), (0 ≤ x.toInt ∧ x.toInt < 12) → zfind T s 12 = x.toInt.toNat → zfk m m' → zv 36 37 42 m' = zv 36 37 42 m → m'.1 35 6 = m.1 35 6 → zPs T (s + zln x.toInt.toNat) m' → Q x m') : wp_35 m Q := by
  have e1 : (1 : Int32).toInt = 1 := rfl
  obtain ⟨hx, hp, h0, h1⟩ := h
  have sl := hx.2.1
  have lp : ∀ (k : Nat) (v2 : Int32) (mj : zf_Me), 1 ≤ v2.toInt → v2.toInt ≤ 9 → 9 - v2.toInt < k → zfk m mj → zv 36 37 42 mj = zv 36 37 42 m → mj.1 35 6 = m.1 35 6 → (mj.1 35 3).toInt = s + v2.toInt - 1 → s + v2.toInt - 1 ≤ T.1 → (v2.toInt = 1 ∨ zany T s (v2.toInt.toNat - 1) 12 = true) → (∀ w, w < 12 → zln w < v2.toInt.toNat → ¬ zMb T s w (zln w) = true) → wq_35_7 Q k (m.1 35 3) v2 mj := by
    intro k
    induction k with
    | zero => intro v2 mj k0 k1 k2; omega
    | succ k ih =>
      intro v2 mj k0 k1 k2 fj zj kj pj bj a1 a2
      refine ⟨fun g => ?_, fun g => zs_36x (zTx_k hx fj) (by omega) (by omega) (fun x hx' => ⟨fun g2 m3 q3 => ?_, fun g2 m9 q9 => ?_⟩)⟩
      · obtain ⟨w, w1, w2, w3⟩ := (zany_i 12).mp (a1.resolve_left (by omega))
        have lw := zln_b w w1
        exact absurd (zMb_le w3 (by omega)) (a2 w w1 (by omega))
      · rw [hp] at hx'
        obtain ⟨x0, x1, x2⟩ := hx'.resolve_left (fun z => g2 z.1)
        have s3 := fb_addI (x := mj.1 35 3) (y := 1) (by omega) (by omega)
        have s2 := fb_addI (x := v2) (y := 1) (by omega) (by omega)
        have f3 : zfk m m3 := by rw [q3]; exact zfk_u fj (by decide) (by decide)
        have z3 : zv 36 37 42 m3 = zv 36 37 42 m := by rw [q3, zv36_35, zj]
        have k3 : m3.1 35 6 = m.1 35 6 := by rw [q3, zf_u4 (by decide)]; exact kj
        have p3 : (m3.1 35 3).toInt = s + v2.toInt := by rw [q3, zf_u3]; omega
        have bb : s + v2.toInt ≤ T.1 := by
          have := ((zMb_i _).mp x2 (v2.toInt.toNat - 1) (by omega)).1
          omega
        refine zy_38 (fun t ht et => ?_)
        have tx := et x0.1 x0.2
        have lt := (zk_len t ht).1
        have zt : zln x.toInt.toNat = zx_sl.getD t 0 := by rw [show x.toInt.toNat = t by omega]; rfl
        refine (⟨fun ne => ?_, fun eq => ?_⟩ : (¬ (Int32.ofNat (zx_sl.getD t 0)).toInt = v2.toInt → wq_35_7 Q k (m.1 35 3) (v2 + 1) m3) ∧ ((Int32.ofNat (zx_sl.getD t 0)).toInt = v2.toInt → Q x m3))
        · refine ih _ m3 (by omega) (by omega) (by omega) f3 z3 k3 (by omega) (by omega) (Or.inr ?_) (fun w w1 w2 z => ?_)
          · rw [show (v2 + 1).toInt.toNat - 1 = v2.toInt.toNat by omega]
            exact (zany_i 12).mpr ⟨x.toInt.toNat, by omega, x1, x2⟩
          · by_cases q : zln w < v2.toInt.toNat
            · exact a2 w w1 q z
            · have ew : zln w = v2.toInt.toNat := by omega
              have := zpf (T := T) (s := s) w1 (show x.toInt.toNat < 12 by omega) z (by omega) (zMb_le x2 (by omega))
              rw [this] at ew
              omega
        · have c : zMb T s x.toInt.toNat (zln x.toInt.toNat) = true := by
            rw [show zln x.toInt.toNat = v2.toInt.toNat by omega]
            exact x2
          exact hy x m3 x0 (zfind_u (by omega) c) f3 z3 k3 (zPs_pl (zTx_k hx f3) (by omega) (by omega) (by omega))
      · rw [hp] at hx'
        have y := (hx'.resolve_right (fun z => by have := z.1.1; omega)).2
        have nf : zfind T s 12 = 12 := zfind_n (fun w w1 z => by
          by_cases q : zln w < v2.toInt.toNat
          · exact a2 w w1 q z
          · exact y ((zany_i 12).mpr ⟨w, w1, by omega, zMb_le z (by omega)⟩))
        have fa : zfar T s 8 = v2.toInt.toNat - 1 := zfar_e (a1.elim (fun z => Or.inl (by omega)) Or.inr) (fun n n1 z => y (zany_le z (by omega))) 8 (by omega)
        rw [q9]
        exact hn nf _ (zfk_u fj (by decide) (by decide)) (by rw [zv36_35, zj]) (by rw [zf_u3, pj, fa]; omega)
  exact ⟨10, lp 10 1 m (by decide) (by decide) (by decide) zfk_refl rfl rfl (by rw [e1, hp]; omega) (by rw [e1]; omega) (Or.inl rfl) (fun w w1 w2 => by have := (zln_b w w1).1; exact absurd (show zln w < 1 from w2) (by omega))⟩
end
