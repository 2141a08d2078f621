/-! part 55: the class between calls (JX); its small methods, shelves -/
abbrev zfc (m m' : zf_Me) : Prop := ∀ a, 63 ≤ a → m'.1 a = m.1 a ∧ m'.2 a = m.2 a
abbrev zq (m m' : zf_Me) : Prop := zfr (fun a => 16 ≤ a ∧ a ≤ 43 ∨ a = 46) m m'
def zsz (m : zf_Me) : Prop := ∀ j, j < 8 → 0 ≤ (m.1 (47 + 2 * j) 2).toInt ∧ (m.1 (47 + 2 * j) 2).toInt ≤ 160
def JX (m : zf_Me) : Prop := zB (zv 2 3 8 m) ∧ zB (zv 9 10 15 m) ∧ zsz m
theorem zd2 : zD 2 3 8 := by decide
theorem zd9 : zD 9 10 15 := by decide
theorem zd16 : zD 16 3 17 := by decide
theorem zd36 : zD 36 37 42 := by decide
theorem zfc_refl {m : zf_Me} : zfc m m := fun _ _ => ⟨rfl, rfl⟩
theorem zfc_trans {a b c : zf_Me} (h : zfc a b) (k : zfc b c) : zfc a c := fun i hi => ⟨(k i hi).1.trans (h i hi).1, (k i hi).2.trans (h i hi).2⟩
theorem zfc_of {P : Nat → Prop} {m m' : zf_Me} (h : zfr P m m') (hp : ∀ a, P a → a < 63) : zfc m m' := fun a ha => ⟨h.1 a (fun z => by have := hp a z; omega), by rw [h.2]⟩
theorem zv_of {P : Nat → Prop} {m m' : zf_Me} {w y r : Nat} (h : zfr P m m') (hw : ¬ P w) (hy : ∀ a, y ≤ a → a ≤ y + 4 → ¬ P a) (hr : ¬ P r) : zv w y r m' = zv w y r m := zv_fr (h.1 _ hw) (fun a h1 h2 => h.1 a (hy a h1 h2)) (h.1 _ hr)
theorem zq_now {m m' : zf_Me} (h : zq m m') : zv 2 3 8 m' = zv 2 3 8 m := zv_of h (by omega) (fun a _ _ => by omega) (by omega)
theorem JX_q {m m' : zf_Me} (hJ : JX m) (h : zq m m') : JX m' := by
  refine ⟨by rw [zq_now h]; exact hJ.1, ?_, fun j hj => ?_⟩
  · rw [zv_of h (w := 9) (y := 10) (r := 15) (by omega) (fun a _ _ => by omega) (by omega)]
    exact hJ.2.1
  · rw [h.1 _ (by omega)]
    exact hJ.2.2 j hj
theorem zfc_q {m m' : zf_Me} (h : zq m m') : zfc m m' := zfc_of h (fun a ha => by omega)
theorem zfR_q {m m' : zf_Me} (h : zfR m m') : zq m m' := zfr_mono h (fun a ha => by omega)
section
variable {m : zf_Me}
theorem zs_109 {w : Int32} (hw : 0 ≤ w.toInt ∧ w.toInt < 8) {Q : Int32 → zf_Me → Prop} (hq : ∀ m', zfr (fun a => a = 46) m m' → Q (-w) m') : wp_109 w m Q :=
  ⟨hw, hw, fun m1 q1 => hq m1 (by rw [q1]; exact zfr_u zfr_refl rfl)⟩
theorem zk_109 {w : Int32} (hw : 0 ≤ w.toInt ∧ w.toInt < 8) {Q : Int32 → zf_Me → Prop} (K : ∀ v m', zq m m' → Q v m') : wp_109 w m Q :=
  zs_109 hw (fun m' f => K _ m' (zfr_mono f (fun a ha => by omega)))
theorem zk_110 {w : Int32} (hw : 0 ≤ w.toInt ∧ w.toInt < 8) {Q : Int32 → zf_Me → Prop} (K : ∀ v m', zq m m' → Q v m') : wp_110 w m Q :=
  ⟨hw, hw, fun m1 q1 => K _ m1 (by rw [q1]; exact zfr_u zfr_refl (by omega))⟩
theorem zs_114 {v : Int32} {Q : Bool → zf_Me → Prop} (ht : 0 ≤ v.toInt ∧ v.toInt < 8 → Q true m) (hf : ¬ (0 ≤ v.toInt ∧ v.toInt < 8) → Q false m) : wp_114 v m Q :=
  ⟨fun g => hf (by omega), fun g => ⟨fun g2 => hf (by omega), fun g2 => ht (by omega)⟩⟩
theorem zs_115 {v : Int32} {Q : Bool → zf_Me → Prop} (ht : 0 ≤ v.toInt ∧ v.toInt < 7 → Q true m) (hf : ¬ (0 ≤ v.toInt ∧ v.toInt < 7) → Q false m) : wp_115 v m Q :=
  ⟨fun g => hf (by omega), fun g => ⟨fun g2 => hf (by omega), fun g2 => ht (by omega)⟩⟩
theorem zs_116 {v : Int32} {Q : Bool → zf_Me → Prop} (ht : 0 ≤ v.toInt ∧ v.toInt < 4 → Q true m) (hf : ¬ (0 ≤ v.toInt ∧ v.toInt < 4) → Q false m) : wp_116 v m Q :=
  ⟨fun g => hf (by omega), fun g => ⟨fun g2 => hf (by omega), fun g2 => ht (by omega)⟩⟩
theorem zs_111 {v : Int32} {Q : Int32 → zf_Me → Prop} (h0 : (0 ≤ v.toInt ∧ v.toInt < 8) → 100 ≤ (m.1 (47 + 2 * v.toInt.toNat) 1).toInt → Q 0 m) (h1 : ¬ (0 ≤ v.toInt ∧ v.toInt < 8) → Q 1 m) (h2 : (0 ≤ v.toInt ∧ v.toInt < 8) → (m.1 (47 + 2 * v.toInt.toNat) 1).toInt < 100 → ¬ (m.1 (47 + 2 * v.toInt.toNat) 1).toInt = -1 → Q 2 m) (h3 : (0 ≤ v.toInt ∧ v.toInt < 8) → (m.1 (47 + 2 * v.toInt.toNat) 1).toInt = -1 → Q 3 m) : wp_111 v m Q :=
  zs_114 (fun g => ⟨fun _ => ⟨g, fun k => ⟨fun _ => ⟨g, fun k2 => h2 g k k2, fun k2 => h3 g k2⟩, fun z => (nomatch z)⟩, fun k => ⟨fun z => (nomatch z), fun _ => h0 g k⟩⟩, fun z => (nomatch z)⟩) (fun g => ⟨fun z => (nomatch z), fun _ => h1 g⟩)
/-- only ints of shelves, longs of shelves -/
def zfS (m m' : zf_Me) : Prop := (∀ a, ¬ (47 ≤ a ∧ a ≤ 62) → m'.1 a = m.1 a) ∧ (∀ a, 63 ≤ a → m'.2 a = m.2 a)
theorem zfS_c {m m' : zf_Me} (h : zfS m m') : zfc m m' := fun a ha => ⟨h.1 a (by omega), h.2 a ha⟩
theorem JX_S {m m' : zf_Me} (hJ : JX m) (h : zfS m m') (hz : zsz m') : JX m' := by
  refine ⟨?_, ?_, hz⟩
  · rw [show zv 2 3 8 m' = zv 2 3 8 m from zv_fr (h.1 _ (by omega)) (fun a _ _ => h.1 _ (by omega)) (h.1 _ (by omega))]
    exact hJ.1
  · rw [show zv 9 10 15 m' = zv 9 10 15 m from zv_fr (h.1 _ (by omega)) (fun a _ _ => h.1 _ (by omega)) (h.1 _ (by omega))]
    exact hJ.2.1
theorem zs_22 {j : Nat} (hj : j < 8) {o n : Int32} (hn : 0 ≤ n.toInt ∧ n.toInt ≤ 160) {Q : zf_Me → Prop} (hq : ∀ m', (∀ a, ¬ a = 47 + 2 * j → m'.1 a = m.1 a) → m'.1 (47 + 2 * j) 1 = 100 + o → m'.1 (47 + 2 * j) 2 = n → (∀ a, ¬ a = 48 + 2 * j → m'.2 a = m.2 a) → (∀ k, k < n.toInt.toNat → m'.2 (48 + 2 * j) k = 0) → Q m') : wp_22 (47 + 2 * j) (48 + 2 * j) o n m Q := by
  have e1 : (1 : Int32).toInt = 1 := rfl
  have e0 : (0 : Int32).toInt = 0 := rfl
  intro m1 q1 m3 q3
  have lp : ∀ (k : Nat) (v : Int32) (mj : zf_Me), 0 ≤ v.toInt → v.toInt ≤ n.toInt → n.toInt - v.toInt < k → mj.1 = m3.1 → (∀ a, ¬ a = 48 + 2 * j → mj.2 a = m.2 a) → (∀ k, k < v.toInt.toNat → mj.2 (48 + 2 * j) k = 0) → wq_22_15 (47 + 2 * j) (48 + 2 * j) o n Q k v mj := by
    intro k
    induction k with
    | zero => intro v mj h0 h1 h2; omega
    | succ k ih =>
      intro v mj h0 h1 h2 hi hl hz
      have s := fb_addI (x := v) (y := 1) (by omega) (by omega)
      refine ⟨fun g => hq mj (fun a ha => ?_) ?_ ?_ hl (fun k hk => hz k (by omega)), fun g => ⟨⟨by omega, by omega⟩, fun m5 q5 => ih _ m5 (by omega) (by omega) (by omega) (by rw [q5]; exact hi) (fun a ha => ?_) (fun k hk => ?_)⟩⟩
      · rw [hi, q3, zf_u1 ha, q1, zf_u1 ha]
      · rw [hi, q3, zf_u4 (by decide), q1, zf_u3]
      · rw [hi, q3, zf_u3]
      · rw [q5]
        show (if a = 48 + 2 * j then _ else mj.2 a) = m.2 a
        rw [if_neg ha]
        exact hl a ha
      · rw [q5]
        show (if 48 + 2 * j = 48 + 2 * j then (fun b => if b = v.toInt.toNat then (0 : Int64) else mj.2 (48 + 2 * j) b) else _ : Nat → Int64) k = 0
        rw [if_pos rfl]
        show (if k = v.toInt.toNat then (0 : Int64) else mj.2 (48 + 2 * j) k) = 0
        split
        · rfl
        · exact hz k (by omega)
  exact ⟨162, lp 162 0 m3 (by omega) (by omega) (by omega) rfl (fun a _ => by rw [q3, q1]; rfl) (fun k hk => by omega)⟩
def zrowA (s o n : Int) : Int := if ¬ (0 ≤ s ∧ s < 8) then -1 else if n < 0 then -4 else if ¬ (0 ≤ o ∧ o < 4) then -6 else if 160 < n then -7 else 1
theorem zx_68 (hJ : JX m) {s o n : Int32} {Q : Int32 → zf_Me → Prop} (hq : ∀ (v : Int32) (m' : zf_Me), JX m' → zfc m m' → v.toInt = zrowA s.toInt o.toInt n.toInt → Q v m') : wp_68 s o n m Q := by
  have K : ∀ v m', zq m m' → v.toInt = zrowA s.toInt o.toInt n.toInt → Q v m' := fun v m' f e => hq v m' (JX_q hJ f) (zfc_q f) e
  have R : ∀ {w : Int32}, (0 ≤ w.toInt ∧ w.toInt < 8) → (-w).toInt = zrowA s.toInt o.toInt n.toInt → wp_109 w m Q := fun hw e => zs_109 hw (fun m' f => K _ m' (zfr_mono f (fun a ha => by omega)) e)
  refine zs_114 (fun g => ⟨fun _ => ⟨fun g2 => ⟨fun g3 => R (by decide) ?_, fun g3 => ⟨fun g4 => ⟨fun g5 => ⟨g, zs_22 (by omega) (by omega) (fun m' f1 a1 a2 f2 a3 => ?_)⟩, fun g5 => R (by decide) ?_⟩, fun g4 => R (by decide) ?_⟩⟩, fun g2 => R (by decide) ?_⟩, fun z => (nomatch z)⟩) (fun g => ⟨fun z => (nomatch z), fun _ => R (by decide) ?_⟩)
  · unfold zrowA
    rw [if_neg (by omega), if_neg (by omega), if_pos (by omega)]
    rfl
  · have hS : zfS m m' := ⟨fun a ha => f1 a (by omega), fun a ha => f2 a (by omega)⟩
    refine hq 1 m' (JX_S hJ hS (fun j hj => ?_)) (zfS_c hS) ?_
    · by_cases e : j = s.toInt.toNat
      · rw [e, a2]
        omega
      · rw [f1 _ (by omega)]
        exact hJ.2.2 j hj
    · unfold zrowA
      rw [if_neg (by omega), if_neg (by omega), if_neg (by omega), if_neg (by omega)]
      rfl
  · unfold zrowA
    rw [if_neg (by omega), if_neg (by omega), if_neg (by omega), if_pos (by omega)]
    rfl
  · unfold zrowA
    rw [if_neg (by omega), if_neg (by omega), if_pos (by omega)]
    rfl
  · unfold zrowA
    rw [if_neg (by omega), if_pos (by omega)]
    rfl
  · unfold zrowA
    rw [if_pos (by omega)]
    rfl
theorem zs_23 {c r : Nat} {i : Int32} {x : Int64} (hi : 0 ≤ i.toInt ∧ i.toInt < 160) {Q : zf_Me → Prop} (hq : ∀ y, Q (zf_ul m r i.toInt.toNat y)) : wp_23 c r i x m Q :=
  ⟨fun _ => ⟨hi, fun m1 q1 => by rw [q1]; exact hq _⟩, fun _ => ⟨hi, fun m1 q1 => by rw [q1]; exact hq _⟩, fun _ => ⟨hi, fun m1 q1 => by rw [q1]; exact hq _⟩, fun _ => ⟨hi, fun m1 q1 => by rw [q1]; exact hq _⟩⟩
theorem zs_20 {c r : Nat} {i : Int32} {Q : Bool → zf_Me → Prop} (ht : 0 ≤ i.toInt ∧ i.toInt < (m.1 c 2).toInt → Q true m) (hf : ¬ (0 ≤ i.toInt ∧ i.toInt < (m.1 c 2).toInt) → Q false m) : wp_20 c r i m Q :=
  ⟨fun g => hf (by omega), fun g => ⟨fun g2 => hf (by omega), fun g2 => ht (by omega)⟩⟩
theorem zfS_l {c i : Nat} {x : Int64} (hc : c < 63) : zfS m (zf_ul m c i x) := ⟨fun _ _ => rfl, fun a ha => if_neg (by omega)⟩
theorem zx_69 (hJ : JX m) {s i : Int32} {x : Int64} {Q : Int32 → zf_Me → Prop} (hq : ∀ (v : Int32) (m' : zf_Me), JX m' → zfc m m' → Q v m') : wp_69 s i x m Q := by
  have K : ∀ v m', zq m m' → Q v m' := fun v m' f => hq v m' (JX_q hJ f) (zfc_q f)
  refine zs_111 (fun g _ => ⟨fun _ => ⟨g, zs_20 (fun g2 => ⟨fun _ => ⟨g, zs_23 ?_ (fun y => hq _ _ ?_ ?_)⟩, fun z => (nomatch z)⟩) (fun g2 => ⟨fun z => (nomatch z), fun _ => zk_109 (by decide) K⟩)⟩, fun z => absurd rfl z⟩) (fun _ => ⟨fun z => absurd z (by decide), fun _ => zk_109 (by decide) K⟩) (fun _ _ _ => ⟨fun z => absurd z (by decide), fun _ => zk_109 (by decide) K⟩) (fun _ _ => ⟨fun z => absurd z (by decide), fun _ => zk_109 (by decide) K⟩)
  · have := hJ.2.2 s.toInt.toNat (by omega)
    omega
  · exact JX_S hJ (zfS_l (by omega)) hJ.2.2
  · exact zfS_c (zfS_l (by omega))
theorem zs_21 {c r : Nat} {i n : Int32} (hz : 0 ≤ (m.1 c 2).toInt ∧ (m.1 c 2).toInt ≤ 160) {Q : Bool → zf_Me → Prop} (ht : 0 ≤ i.toInt ∧ 0 ≤ n.toInt ∧ i.toInt + n.toInt ≤ (m.1 c 2).toInt → Q true m) (hf : ¬ (0 ≤ i.toInt ∧ 0 ≤ n.toInt ∧ i.toInt + n.toInt ≤ (m.1 c 2).toInt) → Q false m) : wp_21 c r i n m Q := by
  refine ⟨fun g => hf (by omega), fun g => ⟨fun g2 => hf (by omega), fun g2 => ⟨fun g3 => hf (by omega), fun g3 => ?_⟩⟩⟩
  have s := fb_subI (x := m.1 c 2) (y := n) (by omega) (by omega)
  exact ⟨fun g4 => hf (by omega), fun g4 => ht (by omega)⟩
theorem zs_112 {p q : Int32} {Q : Int32 → zf_Me → Prop} (h0 : (0 ≤ p.toInt ∧ p.toInt < 8) → (0 ≤ q.toInt ∧ q.toInt < 8) → Q 0 m) (h1 : ∀ x : Int32, 1 ≤ x.toInt → x.toInt ≤ 3 → Q x m) : wp_112 p q m Q := by
  have a : ∀ x : Int32, 1 ≤ x.toInt → x.toInt ≤ 3 → ∀ x2 : Int32, 0 ≤ x2.toInt → x2.toInt ≤ 3 → ((0 ≤ p.toInt ∧ p.toInt < 8) → (0 ≤ q.toInt ∧ q.toInt < 8) → True) → ((x.toInt = 1 → Q 1 m) ∧ (¬ x.toInt = 1 → ((¬ x2.toInt = 1 → ((x.toInt = 2 → Q 2 m) ∧ (¬ x.toInt = 2 → ((¬ x2.toInt = 2 → ((x.toInt = 3 → Q 3 m) ∧ (¬ x.toInt = 3 → ((¬ x2.toInt = 3 → ((0 ≤ (Int32.toInt p) ∧ (Int32.toInt p) < 8) ∧ ((0 ≤ (Int32.toInt q) ∧ (Int32.toInt q) < 8) ∧ ((¬ ((m.1 (47 + 2 * (Int32.toInt p).toNat) 1)).toInt = ((m.1 (47 + 2 * (Int32.toInt q).toNat) 1)).toInt → Q 2 m) ∧ (((m.1 (47 + 2 * (Int32.toInt p).toNat) 1)).toInt = ((m.1 (47 + 2 * (Int32.toInt q).toNat) 1)).toInt → Q 0 m))))) ∧ (x2.toInt = 3 → Q 3 m))))) ∧ (x2.toInt = 2 → Q 2 m))))) ∧ (x2.toInt = 1 → Q 1 m)))) := by
    intro x k1 k2 x2 k3 k4 _
    refine ⟨fun _ => h1 1 (by decide) (by decide), fun n1 => ⟨fun n2 => ⟨fun _ => h1 2 (by decide) (by decide), fun n3 => ⟨fun n4 => ⟨fun _ => h1 3 (by decide) (by decide), fun n5 => ?_⟩, fun _ => h1 2 (by decide) (by decide)⟩⟩, fun _ => h1 1 (by decide) (by decide)⟩⟩
    omega
  have b : ((0 ≤ p.toInt ∧ p.toInt < 8)) → ∀ x2 : Int32, 0 ≤ x2.toInt → x2.toInt ≤ 3 → (x2.toInt = 0 → (0 ≤ q.toInt ∧ q.toInt < 8)) → (((0 : Int32).toInt = 1 → Q 1 m) ∧ (¬ (0 : Int32).toInt = 1 → ((¬ x2.toInt = 1 → (((0 : Int32).toInt = 2 → Q 2 m) ∧ (¬ (0 : Int32).toInt = 2 → ((¬ x2.toInt = 2 → (((0 : Int32).toInt = 3 → Q 3 m) ∧ (¬ (0 : Int32).toInt = 3 → ((¬ x2.toInt = 3 → ((0 ≤ (Int32.toInt p) ∧ (Int32.toInt p) < 8) ∧ ((0 ≤ (Int32.toInt q) ∧ (Int32.toInt q) < 8) ∧ ((¬ ((m.1 (47 + 2 * (Int32.toInt p).toNat) 1)).toInt = ((m.1 (47 + 2 * (Int32.toInt q).toNat) 1)).toInt → Q 2 m) ∧ (((m.1 (47 + 2 * (Int32.toInt p).toNat) 1)).toInt = ((m.1 (47 + 2 * (Int32.toInt q).toNat) 1)).toInt → Q 0 m))))) ∧ (x2.toInt = 3 → Q 3 m))))) ∧ (x2.toInt = 2 → Q 2 m))))) ∧ (x2.toInt = 1 → Q 1 m)))) := by
    intro hp x2 k3 k4 k5
    refine ⟨fun _ => h1 1 (by decide) (by decide), fun n1 => ⟨fun n2 => ⟨fun _ => h1 2 (by decide) (by decide), fun n3 => ⟨fun n4 => ⟨fun _ => h1 3 (by decide) (by decide), fun n5 => ⟨fun n6 => ?_, fun _ => h1 3 (by decide) (by decide)⟩⟩, fun _ => h1 2 (by decide) (by decide)⟩⟩, fun _ => h1 1 (by decide) (by decide)⟩⟩
    have hq := k5 (by omega)
    exact ⟨hp, hq, fun _ => h1 2 (by decide) (by decide), fun _ => h0 hp hq⟩
  have c : ∀ x : Int32, 1 ≤ x.toInt → x.toInt ≤ 3 → wp_111 q m (fun x3 m4 => ((x.toInt = 1 → Q 1 m4) ∧ (¬ x.toInt = 1 → ((¬ x3.toInt = 1 → ((x.toInt = 2 → Q 2 m4) ∧ (¬ x.toInt = 2 → ((¬ x3.toInt = 2 → ((x.toInt = 3 → Q 3 m4) ∧ (¬ x.toInt = 3 → ((¬ x3.toInt = 3 → ((0 ≤ (Int32.toInt p) ∧ (Int32.toInt p) < 8) ∧ ((0 ≤ (Int32.toInt q) ∧ (Int32.toInt q) < 8) ∧ ((¬ ((m4.1 (47 + 2 * (Int32.toInt p).toNat) 1)).toInt = ((m4.1 (47 + 2 * (Int32.toInt q).toNat) 1)).toInt → Q 2 m4) ∧ (((m4.1 (47 + 2 * (Int32.toInt p).toNat) 1)).toInt = ((m4.1 (47 + 2 * (Int32.toInt q).toNat) 1)).toInt → Q 0 m4))))) ∧ (x3.toInt = 3 → Q 3 m4))))) ∧ (x3.toInt = 2 → Q 2 m4))))) ∧ (x3.toInt = 1 → Q 1 m4))))) := fun x k1 k2 =>
    zs_111 (fun _ _ => a x k1 k2 0 (by decide) (by decide) (fun _ _ => trivial)) (fun _ => a x k1 k2 1 (by decide) (by decide) (fun _ _ => trivial)) (fun _ _ _ => a x k1 k2 2 (by decide) (by decide) (fun _ _ => trivial)) (fun _ _ => a x k1 k2 3 (by decide) (by decide) (fun _ _ => trivial))
  exact zs_111 (fun hp _ => zs_111 (fun hq _ => b hp 0 (by decide) (by decide) (fun _ => hq)) (fun _ => b hp 1 (by decide) (by decide) (fun z => absurd z (by decide))) (fun _ _ _ => b hp 2 (by decide) (by decide) (fun z => absurd z (by decide))) (fun _ _ => b hp 3 (by decide) (by decide) (fun z => absurd z (by decide)))) (fun _ => c 1 (by decide) (by decide)) (fun _ _ _ => c 2 (by decide) (by decide)) (fun _ _ => c 3 (by decide) (by decide))
theorem zx_70 (hJ : JX m) {p q i j n : Int32} {Q : Int32 → zf_Me → Prop} (hq : ∀ (v : Int32) (m' : zf_Me), JX m' → zfc m m' → Q v m') : wp_70 p q i j n m Q := by
  have K : ∀ v m', zq m m' → Q v m' := fun v m' f => hq v m' (JX_q hJ f) (zfc_q f)
  refine zs_112 (fun hp hq2 => ⟨fun _ => ⟨fun g => ?_, fun _ => zk_109 (by decide) K⟩, fun z => absurd rfl z⟩) (fun x k1 k2 => ⟨fun z => by omega, fun _ => zk_109 (by omega) K⟩)
  have z1 := hJ.2.2 p.toInt.toNat (by omega)
  have z2 := hJ.2.2 q.toInt.toNat (by omega)
  refine ⟨hp, hq2, zs_21 z1 (fun t1 => ⟨fun z => (nomatch z), fun _ => zs_21 z2 (fun t2 => ⟨fun _ => ⟨⟨by omega, by omega, by omega, by omega, by omega⟩, fun m13 q13 => ?_⟩, fun z => (nomatch z)⟩) (fun _ => ⟨fun z => (nomatch z), fun _ => zk_109 (by decide) K⟩)⟩) (fun _ => ⟨fun _ => zk_109 (by decide) K, fun z => (nomatch z)⟩)⟩
  have hS : zfS m m13 := by
    rw [q13]
    exact ⟨fun _ _ => rfl, fun a ha => if_neg (by omega)⟩
  exact hq 1 m13 (JX_S hJ hS (fun j hj => by rw [q13]; exact hJ.2.2 j hj)) (zfS_c hS)
theorem zx_71 (hJ : JX m) {s i : Int32} {Q : Int64 → zf_Me → Prop} (hq : ∀ (v : Int64) (m' : zf_Me), JX m' → zfc m m' → Q v m') : wp_71 s i m Q := by
  have K : ∀ v, Q v m := fun v => hq v m hJ zfc_refl
  refine zs_111 (fun g _ => ⟨fun _ => K _, fun _ => ⟨g, zs_20 (fun g2 => ⟨fun _ => ⟨g, ?_, K _⟩, fun z => (nomatch z)⟩) (fun _ => ⟨fun z => (nomatch z), fun _ => K _⟩)⟩⟩) (fun _ => ⟨fun _ => K _, fun z => absurd z (by decide)⟩) (fun _ _ _ => ⟨fun _ => K _, fun z => absurd z (by decide)⟩) (fun _ _ => ⟨fun _ => K _, fun z => absurd z (by decide)⟩)
  have := hJ.2.2 s.toInt.toNat (by omega)
  omega
theorem zs_65t {y : Nat} {v : Int32} {Q : Bool → zf_Me → Prop} (ht : 0 ≤ v.toInt ∧ v.toInt < (m.1 y 5).toInt → Q true m) (hf : ¬ (0 ≤ v.toInt ∧ v.toInt < (m.1 y 5).toInt) → Q false m) : wp_65 y v m Q :=
  ⟨fun g => hf (by omega), fun g => ⟨fun g2 => hf (by omega), fun g2 => ht (by omega)⟩⟩
theorem zs_64t {y : Nat} {v : Int32} {Q : Bool → zf_Me → Prop} (ht : 0 ≤ v.toInt ∧ v.toInt < (m.1 y 4).toInt → Q true m) (hf : ¬ (0 ≤ v.toInt ∧ v.toInt < (m.1 y 4).toInt) → Q false m) : wp_64 y v m Q :=
  ⟨fun g => hf (by omega), fun g => ⟨fun g2 => hf (by omega), fun g2 => ht (by omega)⟩⟩
theorem zx_72 (hJ : JX m) {s p : Int32} {Q : Int32 → zf_Me → Prop} (hq : ∀ (v : Int32) (m' : zf_Me), JX m' → zfc m m' → Q v m') : wp_72 s p m Q := by
  have K : ∀ v m', zq m m' → Q v m' := fun v m' f => hq v m' (JX_q hJ f) (zfc_q f)
  have fin : (0 ≤ s.toInt ∧ s.toInt < 8) → wq_72_32 s p m Q := by
    intro g
    refine ⟨g, fun m7 q7 => ?_⟩
    have hS : zfS m m7 := by
      rw [q7]
      exact ⟨fun a ha => zf_u1 (by omega), fun _ _ => rfl⟩
    have hz : zsz m7 := fun j hj => by
      rw [q7]
      by_cases e : 47 + 2 * j = 47 + 2 * s.toInt.toNat
      · rw [e, zf_u4 (by decide)]
        exact hJ.2.2 _ (by omega)
      · rw [zf_u1 e]
        exact hJ.2.2 j hj
    exact ⟨fun _ => hq 1 m7 (JX_S hJ hS hz) (zfS_c hS), fun _ => hq 0 m7 (JX_S hJ hS hz) (zfS_c hS)⟩
  exact zs_114 (fun g => ⟨fun z => (nomatch z), fun _ => ⟨fun _ => fin g, fun _ => zs_65t (fun _ => ⟨fun _ => fin g, fun z => (nomatch z)⟩) (fun _ => ⟨fun z => (nomatch z), fun _ => zk_109 (by decide) K⟩)⟩⟩) (fun _ => ⟨fun _ => zk_109 (by decide) K, fun z => (nomatch z)⟩)
theorem zx_73 (hJ : JX m) {s : Int32} {Q : Int32 → zf_Me → Prop} (hq : ∀ (v : Int32) (m' : zf_Me), JX m' → zfc m m' → Q v m') : wp_73 s m Q :=
  zs_114 (fun g => ⟨fun z => (nomatch z), fun _ => ⟨g, hq _ m hJ zfc_refl⟩⟩) (fun _ => ⟨fun _ => hq _ m hJ zfc_refl, fun z => (nomatch z)⟩)
end
