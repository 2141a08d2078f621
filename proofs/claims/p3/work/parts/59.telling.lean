/-! part 59: the class reads a text: it keeps its bounds -/
abbrev zfT (m m' : zf_Me) : Prop := zfr (fun a => 35 ≤ a ∧ a ≤ 43) m m'
abbrev zpl (m : zf_Me) : Prop := 0 ≤ (m.1 35 3).toInt ∧ (m.1 35 3).toInt ≤ (m.1 35 2).toInt ∧ (m.1 35 2).toInt ≤ 160
def TB (m : zf_Me) : Prop := zpl m ∧ zB (zv 36 37 42 m)
theorem zv36_35 {m : zf_Me} {k : Nat} {x : Int32} : zv 36 37 42 (zf_u m 35 k x) = zv 36 37 42 m := zv_fr (zf_u1 (by decide)) (fun a _ _ => zf_u1 (by omega)) (zf_u1 (by decide))
section
variable {m : zf_Me}
/-- a store into the reader's own fields, but place and size -/
theorem TB_u {k : Nat} {x : Int32} (h : TB m) (h2 : ¬ k = 2) (h3 : ¬ k = 3) : TB (zf_u m 35 k x) := by
  refine ⟨?_, by rw [zv36_35]; exact h.2⟩
  show zpl _
  unfold zpl
  rw [zf_u4 (fun z => h3 z.symm), zf_u4 (fun z => h2 z.symm)]
  exact h.1
theorem TB_pl {x : Int32} (h : TB m) (hx : 0 ≤ x.toInt ∧ x.toInt ≤ (m.1 35 2).toInt) : TB (zf_u m 35 3 x) := by
  refine ⟨?_, by rw [zv36_35]; exact h.2⟩
  show zpl _
  unfold zpl
  rw [zf_u3, zf_u4 (by decide)]
  have := h.1
  unfold zpl at this
  omega
theorem TB_w {m' : zf_Me} (h : TB m) (f : zfr (fun a => 36 ≤ a ∧ a ≤ 42) m m') (hB : zB (zv 36 37 42 m')) : TB m' := by
  refine ⟨?_, hB⟩
  show zpl _
  unfold zpl
  rw [f.1 35 (by decide)]
  exact h.1
theorem zy_39 (h : TB m) {c : Int32} {Q : Bool → zf_Me → Prop} (hq : ∀ b m', TB m' → zfT m m' → zv 36 37 42 m' = zv 36 37 42 m → Q b m') : wp_39 c m Q := by
  have p := h.1
  unfold zpl at p
  have e1 : (1 : Int32).toInt = 1 := rfl
  refine ⟨fun g m1 q1 => ?_, fun g => ⟨by omega, fun _ m3 q3 => ?_, fun _ m5 q5 => ?_⟩⟩
  · rw [q1]
    exact hq _ _ (TB_u h (by decide) (by decide)) (zfr_u zfr_refl (by omega)) zv36_35
  · rw [q3]
    have s := fb_addI (x := m.1 35 3) (y := 1) (by omega) (by omega)
    exact hq _ _ (TB_pl h (by omega)) (zfr_u zfr_refl (by omega)) zv36_35
  · rw [q5]
    exact hq _ _ (TB_u h (by decide) (by decide)) (zfr_u zfr_refl (by omega)) zv36_35
theorem zy_41 (h : TB m) {Q : Bool → zf_Me → Prop} (hq : ∀ b, (b = true → (m.1 35 3).toInt < (m.1 35 2).toInt ∧ 48 ≤ (m.1 43 (m.1 35 3).toInt.toNat).toInt ∧ (m.1 43 (m.1 35 3).toInt.toNat).toInt ≤ 57) → Q b m) : wp_41 m Q := by
  have p := h.1
  unfold zpl at p
  exact ⟨fun _ => hq false (fun z => (nomatch z)), fun g => ⟨by omega, fun _ => hq false (fun z => (nomatch z)), fun g2 => ⟨by omega, fun _ => hq false (fun z => (nomatch z)), fun g3 => hq true (fun _ => ⟨g, g2, g3⟩)⟩⟩⟩
/-- a number that may be, or -1 -/
theorem zy_40 (h : TB m) {lo hi : Int32} {Q : Int32 → zf_Me → Prop} (hq : ∀ (x : Int32) (m' : zf_Me), TB m' → zfT m m' → zv 36 37 42 m' = zv 36 37 42 m → (¬ x.toInt = -1 → 0 ≤ x.toInt ∧ lo.toInt ≤ x.toInt ∧ x.toInt ≤ hi.toInt) → Q x m') : wp_40 lo hi m Q := by
  have e1 : (1 : Int32).toInt = 1 := rfl
  have e10 : (10 : Int32).toInt = 10 := rfl
  have e48 : (48 : Int32).toInt = 48 := rfl
  have en : (-1 : Int32).toInt = -1 := rfl
  refine zy_39 h (fun b m2 h2 f2 z2 => ⟨fun _ m3 q3 => ?_, fun _ => hq _ m2 h2 f2 z2 (fun k => absurd en k)⟩)
  have h3 : TB m3 := by rw [q3]; exact TB_u h2 (by decide) (by decide)
  have f3 : zfT m m3 := by rw [q3]; exact zfr_u f2 (by omega)
  have z3 : zv 36 37 42 m3 = zv 36 37 42 m := by rw [q3, zv36_35, z2]
  have t71 : ∀ (x : Int32) (mj : zf_Me), 0 ≤ x.toInt → TB mj → zfT m mj → zv 36 37 42 mj = zv 36 37 42 m → wq_40_71 lo hi x mj Q := by
    intro x mj hx hj fj zj
    have no : ∀ m', m' = zf_u mj 35 6 (mj.1 35 4) → Q (-1) m' := fun m' q' => by
      rw [q']
      exact hq _ _ (TB_u hj (by decide) (by decide)) (zfr_u fj (by omega)) (by rw [zv36_35, zj]) (fun k => absurd en k)
    exact ⟨fun _ => no, fun _ => ⟨fun _ => no, fun g => ⟨fun g2 => hq x mj hj fj zj (fun _ => ⟨hx, g, g2⟩), fun _ => no⟩⟩⟩
  have lp : ∀ (n : Nat) (v3 v4 : Int32) (mj : zf_Me), 0 ≤ v4.toInt → v4.toInt ≤ 2 → 2 - v4.toInt < n → 0 ≤ v3.toInt → (v4.toInt = 0 → v3.toInt = 0) → (v4.toInt = 1 → v3.toInt ≤ 9) → TB mj → zfT m mj → zv 36 37 42 mj = zv 36 37 42 m → wq_40_24 lo hi Q n v3 v4 mj := by
    intro n
    induction n with
    | zero => intro v3 v4 mj k0 k1 k2; omega
    | succ n ih =>
      intro v3 v4 mj k0 k1 k2 k3 k4 k5 hj fj zj
      refine ⟨fun _ => t71 v3 mj k3 hj fj zj, fun g => zy_41 hj (fun b hb => ⟨fun _ => t71 v3 mj k3 hj fj zj, fun e => ?_⟩)⟩
      have d := hb e
      have p := hj.1
      unfold zpl at p
      refine ⟨by omega, fun m13 q13 => ?_⟩
      have s4 := fb_addI (x := v4) (y := 1) (by omega) (by omega)
      have sp := fb_addI (x := mj.1 35 3) (y := 1) (by omega) (by omega)
      have v9 : v3.toInt ≤ 9 := by
        by_cases q : v4.toInt = 0
        · have := k4 q; omega
        · exact k5 (by omega)
      have sm : (v3 * 10).toInt = v3.toInt * 10 := fb_mulI (x := v3) (y := 10) (by rw [e10]; omega) (by rw [e10]; omega)
      have sa := fb_addI (x := v3 * 10) (y := mj.1 43 (mj.1 35 3).toInt.toNat) (by omega) (by omega)
      have ss := fb_subI (x := v3 * 10 + mj.1 43 (mj.1 35 3).toInt.toNat) (y := 48) (by omega) (by omega)
      exact ih _ _ m13 (by omega) (by omega) (by omega) (by omega) (by omega) (fun q => by have := k4 (by omega); omega) (by rw [q13]; exact TB_pl hj (by omega)) (by rw [q13]; exact zfr_u fj (by omega)) (by rw [q13, zv36_35, zj])
  exact ⟨4, lp 4 0 0 m3 (by decide) (by decide) (by decide) (by decide) (fun _ => rfl) (fun z => absurd z (by decide)) h3 f3 z3⟩
theorem zy_28 (h : TB m) {w : Int32} {Q : Bool → zf_Me → Prop} (hq : ∀ b, (b = true → (w.toInt = 0 ∨ w.toInt = 1 → (m.1 37 4).toInt < 24) ∧ (w.toInt = 2 → 0 < (m.1 37 4).toInt) ∧ (w.toInt = 3 → (m.1 37 5).toInt < 6)) → Q b m) : wp_28 w m Q :=
  ⟨fun g => hq true (fun _ => ⟨fun z => by omega, fun z => by omega, fun z => by omega⟩), fun g => ⟨fun _ => hq false (fun z => (nomatch z)), fun g2 => hq true (fun _ => ⟨fun _ => g2, fun z => by omega, fun z => by omega⟩)⟩, fun g => ⟨fun _ => hq false (fun z => (nomatch z)), fun g2 => hq true (fun _ => ⟨fun _ => g2, fun z => by omega, fun z => by omega⟩)⟩, fun g => ⟨fun _ => hq false (fun z => (nomatch z)), fun g2 => hq true (fun _ => ⟨fun z => by omega, fun _ => g2, fun z => by omega⟩)⟩, fun g => ⟨fun _ => hq false (fun z => (nomatch z)), fun g2 => hq true (fun _ => ⟨fun z => by omega, fun z => by omega, fun _ => g2⟩)⟩⟩
theorem zy_29 (h : TB m) (hf : (m.1 37 4).toInt < 24) {s : Int32} (hs : s.toInt = 1 ∨ s.toInt = -1) {Q : zf_Me → Prop} (hq : ∀ m', TB m' → zfT m m' → Q m') : wp_29 s m Q := by
  have e0 : (0 : Int32).toInt = 0 := rfl
  have e3 : (3 : Int32).toInt = 3 := rfl
  refine zy_40 h (fun x m2 h2 f2 z2 hx => ⟨fun _ => hq m2 h2 f2, fun g => ?_⟩)
  have b := hx g
  have c4 : (m2.1 37 4).toInt = (m.1 37 4).toInt := congrFun (congrFun z2 5) 5
  have bv := zB_v h2.2
  have sm : (s * x).toInt = s.toInt * x.toInt := fb_mulI (by rcases hs with k | k <;> rw [k] <;> omega) (by rcases hs with k | k <;> rw [k] <;> omega)
  have sb : -3 ≤ (s * x).toInt ∧ (s * x).toInt ≤ 3 := by
    rw [sm]
    rcases hs with k | k <;> rw [k] <;> omega
  refine zs_66 zd36 (by omega) (fun m' z' f' => hq m' (TB_w h2 (zfr_mono f' (fun a ha => by omega)) ?_) (zfr_trans f2 (zfr_mono f' (fun a ha => by omega))))
  rw [z']
  exact zB_addF h2.2 (by show (m2.1 37 4).toInt < 24; omega) sb (by split <;> omega)
theorem zy_30 (h : TB m) (hf : (m.1 37 5).toInt < 6) {Q : zf_Me → Prop} (hq : ∀ m', TB m' → zfT m m' → Q m') : wp_30 m Q := by
  have e0 : (0 : Int32).toInt = 0 := rfl
  have e6 : (6 : Int32).toInt = 6 := rfl
  have e9 : (9 : Int32).toInt = 9 := rfl
  have en : (-1 : Int32).toInt = -1 := rfl
  refine zy_40 h (fun x m2 h2 f2 z2 hx => ⟨fun g => zy_40 h2 (fun y m4 h4 f4 z4 hy => ⟨fun _ => hq m4 h4 (zfr_trans f2 f4), fun g2 => ?_⟩), fun _ => ⟨fun _ => hq m2 h2 f2, fun k => absurd en k⟩⟩)
  have b := hx g
  have b2 := hy g2
  have c5 : (m4.1 37 5).toInt = (m.1 37 5).toInt := (congrFun (congrFun z4 5) 6).trans (congrFun (congrFun z2 5) 6)
  have bv := zB_v h4.2
  refine zs_44 zd36 (by omega) (fun m' z' f' => hq m' (TB_w h4 (zfr_mono f' (fun a ha => by omega)) ?_) (zfr_trans f2 (zfr_trans f4 (zfr_mono f' (fun a ha => by omega)))))
  rw [z']
  exact zB_addP h4.2 (by show (m4.1 37 5).toInt < 6; omega) (by omega) (by omega)
theorem zy_31 (h : TB m) {Q : zf_Me → Prop} (hq : ∀ m', TB m' → zfT m m' → Q m') : wp_31 m Q := by
  have e0 : (0 : Int32).toInt = 0 := rfl
  have e1 : (1 : Int32).toInt = 1 := rfl
  have e99 : (99 : Int32).toInt = 99 := rfl
  have en : (-1 : Int32).toInt = -1 := rfl
  have bv := zB_v h.2
  have s := fb_subI (x := m.1 37 5) (y := 1) (by omega) (by omega)
  refine zy_40 h (fun x m2 h2 f2 z2 hx => ⟨fun g => zy_40 h2 (fun y m4 h4 f4 z4 hy => ⟨fun _ => hq m4 h4 (zfr_trans f2 f4), fun g2 => ?_⟩), fun _ => ⟨fun _ => hq m2 h2 f2, fun k => absurd en k⟩⟩)
  have b := hx g
  have b2 := hy g2
  refine ⟨by omega, fun m5 q5 => ?_⟩
  have f5 : zfr (fun a => a = 42) m4 m5 := by rw [q5]; exact zfr_u zfr_refl rfl
  refine hq m5 (TB_w h4 (zfr_mono f5 (fun a ha => by omega)) ?_) (zfr_trans f2 (zfr_trans f4 (zfr_mono f5 (fun a ha => by omega))))
  rw [q5, zv_a4 zd36 (by omega)]
  exact zB_tire h4.2 (by omega)
theorem zy_32 (h : TB m) {Q : zf_Me → Prop} (hq : ∀ m', TB m' → zfT m m' → Q m') : wp_32 m Q := by
  have e0 : (0 : Int32).toInt = 0 := rfl
  have e1 : (1 : Int32).toInt = 1 := rfl
  have bv := zB_v h.2
  have s := fb_subI (x := m.1 37 5) (y := 1) (by omega) (by omega)
  refine zy_40 h (fun x m2 h2 f2 z2 hx => ⟨fun _ => hq m2 h2 f2, fun g m3 q3 => ?_⟩)
  have b := hx g
  have f3 : zfr (fun a => a = 36) m2 m3 := by rw [q3]; exact zfr_u zfr_refl rfl
  refine hq m3 (TB_w h2 (zfr_mono f3 (fun a ha => by omega)) ?_) (zfr_trans f2 (zfr_mono f3 (fun a ha => by omega)))
  rw [q3, zv_w2 zd36]
  exact zB_bag h2.2 (by omega)
theorem zy_33 (h : TB m) {Q : zf_Me → Prop} (hq : ∀ m', TB m' → zfT m m' → Q m') : wp_33 m Q := by
  refine zy_40 h (fun x m2 h2 f2 z2 hx => ⟨fun g => zs_52 h2.2 (fun b hb => ⟨fun _ m5 q5 => ?_, fun e => zs_56 zd36 h2.2 (hb.mp e) (fun m' z' f' => hq m' (TB_w h2 (zfr_mono f' (fun a ha => by omega)) ?_) (zfr_trans f2 (zfr_mono f' (fun a ha => by omega))))⟩), fun _ => hq m2 h2 f2⟩)
  · rw [q5]
    exact hq _ (TB_u h2 (by decide) (by decide)) (zfr_u f2 (by omega))
  · rw [z']
    exact zB_act h2.2 (hb.mp e)
theorem zy_34 (h : TB m) {w : Int32} {Q : zf_Me → Prop} (hq : ∀ m', TB m' → zfT m m' → Q m') : wp_34 w m Q := by
  refine ⟨fun _ => hq m h zfr_refl, fun g => ⟨fun g2 => ⟨⟨g, g2⟩, ⟨g, g2⟩, zy_40 h (fun x m2 h2 f2 z2 hx => ⟨fun _ => hq m2 h2 f2, fun g3 => zs_46 zd36 ⟨g, g2⟩ (fun m' z' f' => hq m' (TB_w h2 (zfr_mono f' (fun a ha => by omega)) ?_) (zfr_trans f2 (zfr_mono f' (fun a ha => by omega))))⟩)⟩, fun _ => hq m h zfr_refl⟩⟩
  have lo := zk_lo w.toInt.toNat (by omega)
  have b := hx g3
  rw [z']
  exact zB_ask h2.2 (by omega) (by rw [← lo.1, ← lo.2]; exact b.2)
theorem zy_38 {w : Int32} {Q : Nat → zf_Me → Prop} (hq : ∀ t : Nat, t < 12 → (0 ≤ w.toInt → w.toInt < 12 → (t : Int) = w.toInt) → Q t m) : wp_38 w m Q :=
  ⟨fun g => hq 11 (by decide) (fun a b => by omega), fun g => hq 0 (by decide) (fun a b => by omega), fun g => hq 1 (by decide) (fun a b => by omega), fun g => hq 2 (by decide) (fun a b => by omega), fun g => hq 3 (by decide) (fun a b => by omega), fun g => hq 4 (by decide) (fun a b => by omega), fun g => hq 5 (by decide) (fun a b => by omega), fun g => hq 6 (by decide) (fun a b => by omega), fun g => hq 7 (by decide) (fun a b => by omega), fun g => hq 8 (by decide) (fun a b => by omega), fun g => hq 9 (by decide) (fun a b => by omega), fun g => hq 10 (by decide) (fun a b => by omega)⟩
theorem zk_lenb : ∀ a, a < 12 → zx_sl.getD a 0 ≤ 8 := by decide
theorem zy_37 (h : TB m) {t : Nat} (ht : t < 12) {s n : Int32} (hs : 0 ≤ s.toInt ∧ s.toInt ≤ 160) (hn : 1 ≤ n.toInt ∧ n.toInt ≤ 8) {Q : Bool → zf_Me → Prop} (hq : ∀ b, (b = true → s.toInt + n.toInt ≤ (m.1 35 2).toInt) → Q b m) : wp_37 t s n m Q := by
  have e1 : (1 : Int32).toInt = 1 := rfl
  have p := h.1
  unfold zpl at p
  have l := (zk_len t ht).1
  have lb := zk_lenb t ht
  have a := fb_addI (x := s) (y := n) (by omega) (by omega)
  refine (⟨fun _ => hq false (fun z => (nomatch z)), fun g => ⟨fun g2 => ?_, fun _ => hq false (fun z => (nomatch z))⟩⟩ : (n.toInt > (Int32.ofNat (zx_sl.getD t 0)).toInt → Q false m) ∧ (n.toInt ≤ (Int32.ofNat (zx_sl.getD t 0)).toInt → (((s + n)).toInt ≤ ((m.1 35 2)).toInt → (∃ n23, wq_37_23 t s n Q n23 0 m)) ∧ (((s + n)).toInt > ((m.1 35 2)).toInt → Q false m)))
  have lp : ∀ (k : Nat) (v : Int32), 0 ≤ v.toInt → v.toInt ≤ n.toInt → n.toInt - v.toInt < k → wq_37_23 t s n Q k v m := by
    intro k
    induction k with
    | zero => intro v k0 k1 k2; omega
    | succ k ih =>
      intro v k0 k1 k2
      refine ⟨fun _ => hq true (fun _ => by omega), fun g3 => ?_⟩
      have b := fb_addI (x := s) (y := v) (by omega) (by omega)
      have c := fb_addI (x := v) (y := 1) (by omega) (by omega)
      exact ⟨by omega, ⟨by omega, by omega⟩, fun _ => ih _ (by omega) (by omega) (by omega), fun _ => hq false (fun z => (nomatch z))⟩
  exact ⟨10, lp 10 0 (by decide) (by show (0 : Int) ≤ _; omega) (by show n.toInt - 0 < _; omega)⟩
theorem zy_36 (h : TB m) {s n : Int32} (hs : 0 ≤ s.toInt ∧ s.toInt ≤ 160) (hn : 1 ≤ n.toInt ∧ n.toInt ≤ 8) {Q : Int32 → zf_Me → Prop} (hq : ∀ x : Int32, (x.toInt = -1 ∨ (0 ≤ x.toInt ∧ x.toInt < 12 ∧ s.toInt + n.toInt ≤ (m.1 35 2).toInt)) → Q x m) : wp_36 s n m Q := by
  have e1 : (1 : Int32).toInt = 1 := rfl
  have lp : ∀ (k : Nat) (v : Int32), 0 ≤ v.toInt → v.toInt ≤ 12 → 12 - v.toInt < k → wq_36_2 s n Q k v m := by
    intro k
    induction k with
    | zero => intro v k0 k1 k2; omega
    | succ k ih =>
      intro v k0 k1 k2
      refine ⟨fun _ => hq (-1) (Or.inl rfl), fun g => zy_38 (fun t ht _ => zy_37 h ht hs hn (fun b hb => ⟨fun _ => ?_, fun e => hq v (Or.inr ⟨k0, g, hb e⟩)⟩))⟩
      have c := fb_addI (x := v) (y := 1) (by omega) (by omega)
      exact ih _ (by omega) (by omega) (by omega)
  exact ⟨14, lp 14 0 (by decide) (by decide) (by decide)⟩
theorem zy_35 (h : TB m) {Q : Int32 → zf_Me → Prop} (hq : ∀ (x : Int32) (m' : zf_Me), TB m' → zfT m m' → zv 36 37 42 m' = zv 36 37 42 m → (x.toInt = -1 ∨ (0 ≤ x.toInt ∧ x.toInt < 12)) → Q x m') : wp_35 m Q := by
  have e1 : (1 : Int32).toInt = 1 := rfl
  have p := h.1
  unfold zpl at p
  have lp : ∀ (k : Nat) (v2 : Int32) (mj : zf_Me), 1 ≤ v2.toInt → v2.toInt ≤ 9 → 9 - v2.toInt < k → TB mj → zfT m mj → zv 36 37 42 mj = zv 36 37 42 m → (mj.1 35 2) = m.1 35 2 → (mj.1 35 3).toInt = (m.1 35 3).toInt + v2.toInt - 1 → wq_35_7 Q k (m.1 35 3) v2 mj := by
    intro k
    induction k with
    | zero => intro v2 mj k0 k1 k2; omega
    | succ k ih =>
      intro v2 mj k0 k1 k2 hj fj zj sj pj
      refine ⟨fun _ => hq _ mj hj fj zj (Or.inl rfl), fun g => zy_36 hj (by omega) (by omega) (fun x hx => ⟨fun g2 m3 q3 => ?_, fun g2 m9 q9 => ?_⟩)⟩
      · have b := hx.resolve_left g2
        have s := fb_addI (x := mj.1 35 3) (y := 1) (by omega) (by omega)
        have s2 := fb_addI (x := v2) (y := 1) (by omega) (by omega)
        have h3 : TB m3 := by rw [q3]; exact TB_pl hj (by omega)
        have f3 : zfT m m3 := by rw [q3]; exact zfr_u fj (by omega)
        have z3 : zv 36 37 42 m3 = zv 36 37 42 m := by rw [q3, zv36_35, zj]
        refine zy_38 (fun t ht _ => ?_)
        exact ⟨fun _ => ih _ m3 (by omega) (by omega) (by omega) h3 f3 z3 (by rw [q3, zf_u4 (by decide), sj]) (by rw [q3, zf_u3, s]; omega), fun _ => hq x m3 h3 f3 z3 (Or.inr ⟨b.1, b.2.1⟩)⟩
      · rw [q9]
        exact hq _ _ (TB_u hj (by decide) (by decide)) (zfr_u fj (by omega)) (by rw [zv36_35, zj]) (Or.inl rfl)
  exact ⟨10, lp 10 1 m (by decide) (by decide) (by decide) h zfr_refl rfl rfl (by show _ = _ + 1 - 1; omega)⟩
theorem zy_27 (h : TB m) {Q : zf_Me → Prop} (hq : ∀ m', TB m' → zfT m m' → Q m') : wp_27 m Q := by
  have e1 : (1 : Int32).toInt = 1 := rfl
  refine zy_35 h (fun x m2 h2 f2 z2 hx => ⟨fun g => zy_28 h2 (fun b hb => ⟨fun e => ?_, fun _ m21 q21 => ?_⟩), fun _ => hq m2 h2 f2⟩)
  · have r := hb e
    have w : ∀ m', TB m' → zfT m2 m' → Q m' := fun m' a b => hq m' a (zfr_trans f2 b)
    have bv := zB_v h2.2
    refine ⟨fun _ => zy_34 h2 w, fun k => zy_29 h2 (r.1 (Or.inl k)) (Or.inl rfl) w, fun k => zy_29 h2 (r.1 (Or.inr k)) (Or.inr rfl) w, fun k => ?_, fun k => zy_30 h2 (r.2.2 k) w, fun _ => zy_31 h2 w, fun _ => zy_32 h2 w, fun _ => zy_33 h2 w⟩
    have p := r.2.1 k
    have s := fb_subI (x := m2.1 37 4) (y := 1) (by omega) (by omega)
    refine ⟨by omega, fun m11 q11 => ?_⟩
    have f11 : zfr (fun a => a = 39) m2 m11 := by rw [q11]; exact zfr_u zfr_refl rfl
    refine w m11 (TB_w h2 (zfr_mono f11 (fun a ha => by omega)) ?_) (zfr_mono f11 (fun a ha => by omega))
    have z11 : zv 36 37 42 m11 = zU (zv 36 37 42 m2) 1 ((m2.1 37 4 - 1).toInt.toNat) 1 := by
      rw [q11, zv_a1 zd36 (by omega), e1]
    rw [z11]
    refine ⟨h2.2.1, fun j hj => ?_, fun j hj => ?_⟩
    · have b2 := h2.2.2.1 j hj
      rw [zU_o (by omega)]
      by_cases q : j = (m2.1 37 4 - 1).toInt.toNat
      · rw [q, zU_s]
        rw [q] at b2
        omega
      · rw [zU_o (by omega)]
        exact b2
    · rw [zU_o (by omega), zU_o (by omega), zU_o (by omega)]
      exact h2.2.2.2 j hj
  · rw [q21]
    exact hq _ (TB_u h2 (by decide) (by decide)) (zfr_u f2 (by omega))
theorem zy_26 {c r : Nat} (hB : zB (zv 2 3 8 m)) (hc : ¬ (35 ≤ c ∧ c ≤ 43)) (hz : 0 ≤ (m.1 c 2).toInt ∧ (m.1 c 2).toInt ≤ 160) {Q : zf_Me → Prop} (hq : ∀ m', zB (zv 36 37 42 m') → zfT m m' → Q m') : wp_26 c r 2 3 8 m Q := by
  have e1 : (1 : Int32).toInt = 1 := rfl
  refine zs_63_43 zd36 (by decide) (by decide) (by decide) (fun m4 z4 f4 m5 q5 => ?_)
  have f5 : zfT m m5 := by
    rw [q5]
    exact zfr_u (zfr_mono f4 (fun a ha => by omega)) (by omega)
  have s5 : (m5.1 35 2).toInt = (m.1 c 2).toInt := by
    rw [q5, zf_u3, f4.1 c (by omega)]
  have b5 : zB (zv 36 37 42 m5) := by
    rw [q5, zv36_35, z4]
    exact hB
  have lp77 : ∀ (k : Nat) (v3 v4 : Int32) (mj : zf_Me), 0 ≤ v4.toInt → v4.toInt ≤ 161 → 161 - v4.toInt < k → TB mj → zfT m mj → wq_26_77 c r 2 3 8 Q k v3 v4 mj := by
    intro k
    induction k with
    | zero => intro v3 v4 mj k0 k1 k2; omega
    | succ k ih =>
      intro v3 v4 mj k0 k1 k2 hj fj
      refine ⟨fun _ => hq mj hj.2 fj, fun _ => ⟨fun _ => hq mj hj.2 fj, fun g => zy_27 hj (fun m14 h14 f14 m15 q15 => ?_)⟩⟩
      have s := fb_addI (x := v4) (y := 1) (by omega) (by omega)
      have h15 : TB m15 := by rw [q15]; exact TB_u h14 (by decide) (by decide)
      have f15 : zfT m m15 := by rw [q15]; exact zfr_u (zfr_trans fj f14) (by omega)
      have go : ∀ (x : Int32) (m' : zf_Me), TB m' → zfT m m' → wq_26_77 c r 2 3 8 Q k x (v4 + 1) m' := fun x m' a b => ih x _ m' (by omega) (by omega) (by omega) a b
      exact ⟨fun _ => go _ m15 h15 f15, fun _ => ⟨fun _ => go _ m15 h15 f15, fun _ => zy_39 h15 (fun b m18 h18 f18 _ => ⟨fun _ => go _ m18 h18 (zfr_trans f15 f18), fun _ => go _ m18 h18 (zfr_trans f15 f18)⟩)⟩⟩
  have lp : ∀ (k : Nat) (v : Int32) (mj : zf_Me), 0 ≤ v.toInt → v.toInt ≤ (m.1 c 2).toInt → (m.1 c 2).toInt - v.toInt < k → (mj.1 35 2).toInt = (m.1 c 2).toInt → zB (zv 36 37 42 mj) → zfT m mj → wq_26_32 c r 2 3 8 Q k v mj := by
    intro k
    induction k with
    | zero => intro v mj k0 k1 k2; omega
    | succ k ih =>
      intro v mj k0 k1 k2 sj bj fj
      refine ⟨fun g m7 q7 m9 q9 m11 q11 => ?_, fun g => ⟨⟨by omega, by omega⟩, ⟨by omega, by omega⟩, fun m21 q21 => ?_⟩⟩
      · have h11 : TB m11 := by
          refine ⟨?_, by rw [q11, zv36_35, q9, zv36_35, q7, zv36_35]; exact bj⟩
          show zpl _
          unfold zpl
          rw [q11, zf_u4 (by decide), zf_u4 (by decide), q9, zf_u4 (by decide), zf_u4 (by decide), q7, zf_u3, zf_u4 (by decide)]
          have e0 : (0 : Int32).toInt = 0 := rfl
          omega
        have f11 : zfT m m11 := by
          rw [q11, q9, q7]
          exact zfr_u (zfr_u (zfr_u fj (by omega)) (by omega)) (by omega)
        exact ⟨163, lp77 163 1 0 m11 (by decide) (by decide) (by decide) h11 f11⟩
      · have s := fb_addI (x := v) (y := 1) (by omega) (by omega)
        refine ih _ m21 (by omega) (by omega) (by omega) (by rw [q21, zf_u1 (by decide), sj]) ?_ (by rw [q21]; exact zfr_u fj (by omega))
        rw [q21, show zv 36 37 42 (zf_u mj 43 v.toInt.toNat (Int64.toInt32 (mj.2 r v.toInt.toNat))) = zv 36 37 42 mj from zv_fr (zf_u1 (by decide)) (fun a _ _ => zf_u1 (by omega)) (zf_u1 (by decide))]
        exact bj
  exact ⟨162, lp 162 0 m5 (by decide) (by exact hz.1) (by show (m.1 c 2).toInt - 0 < _; omega) s5 b5 f5⟩
theorem zx_82 (hJ : JX m) {s : Int32} {Q : Int32 → zf_Me → Prop} (hq : ∀ (v : Int32) (m' : zf_Me), JX m' → zfc m m' → Q v m') : wp_82 s m Q := by
  have K : ∀ v m', zq m m' → Q v m' := fun v m' f => hq v m' (JX_q hJ f) (zfc_q f)
  refine zs_111 (fun g _ => ⟨fun _ => ⟨g, zy_26 hJ.1 (by omega) (hJ.2.2 _ (by omega)) (fun m6 b6 f6 m7 q7 => ?_)⟩, fun z => absurd rfl z⟩) (fun _ => ⟨fun z => absurd z (by decide), fun _ => zk_109 (by decide) K⟩) (fun _ _ _ => ⟨fun z => absurd z (by decide), fun _ => zk_109 (by decide) K⟩) (fun _ _ => ⟨fun z => absurd z (by decide), fun _ => zk_109 (by decide) K⟩)
  have f7 : zfr (fun a => a = 0 ∨ (35 ≤ a ∧ a ≤ 43)) m m7 := by
    rw [q7]
    exact zfr_u (zfr_mono f6 (fun a ha => Or.inr ha)) (Or.inl rfl)
  have J7 : JX m7 := by
    refine ⟨?_, ?_, fun j hj => ?_⟩
    · rw [zv_of f7 (w := 2) (y := 3) (r := 8) (by omega) (fun a _ _ => by omega) (by omega)]
      exact hJ.1
    · rw [zv_of f7 (w := 9) (y := 10) (r := 15) (by omega) (fun a _ _ => by omega) (by omega)]
      exact hJ.2.1
    · rw [f7.1 _ (by omega)]
      exact hJ.2.2 j hj
  have c7 : zfc m m7 := zfc_of f7 (fun a ha => by omega)
  have b7 : zB (zv 36 37 42 m7) := by
    rw [q7, show zv 36 37 42 (zf_u m6 0 10 (m6.1 35 6)) = zv 36 37 42 m6 from zv_fr (zf_u1 (by decide)) (fun a _ _ => zf_u1 (by omega)) (zf_u1 (by decide))]
    exact b6
  refine ⟨fun _ => zs_63_43 zd2 (by decide) (by decide) (by decide) (fun m12 z12 f12 => hq _ m12 (JX_now J7 (zfr_mono f12 (fun a ha => by omega)) (by rw [z12]; exact b7)) (zfc_trans c7 (zfc_of f12 (fun a ha => by omega)))), fun _ => zk_109 (by decide) (fun v m2 f2 => hq v m2 (JX_q J7 f2) (zfc_trans c7 (zfc_q f2)))⟩
end
