/-! part 55: the class between calls (JX); its small methods, shelves -/
abbrev zfc (m m' : zf_Me) : Prop := ∀ a, 63 ≤ a → m'.1 a = m.1 a ∧ m'.2 a = m.2 a
abbrev zq (m m' : zf_Me) : Prop := zfr (fun a => 16 ≤ a ∧ a ≤ 43 ∨ a = 46) m m'
def zsz (m : zf_Me) : Prop := ∀ j, j < 8 → 0 ≤ (m.1 (47 + 2 * j) 2).toInt ∧ (m.1 (47 + 2 * j) 2).toInt ≤ 160
def JX (m : zf_Me) : Prop := zB (zv 2 3 8 m) ∧ zB (zv 9 10 15 m) ∧ zsz m
theorem zd2 : zD 2 3 8 := by decide
theorem zd9 : zD 9 10 15 := by decide
theorem zd16 : zD 16 3 17 := by decide
theorem zd36 : zD 36 37 42 := by decide
theorem zfc_of {P : Nat → Prop} {m m' : zf_Me} (h : zfr P m m') (hp : ∀ a, P a → a < 63) : zfc m m' := fun a ha => ⟨h.1 a (fun z => by have := hp a z; omega), by rw [h.2]⟩
theorem zv_of {P : Nat → Prop} {m m' : zf_Me} {w y r : Nat} (h : zfr P m m') (hw : ¬ P w) (hy : ∀ a, y ≤ a → a ≤ y + 4 → ¬ P a) (hr : ¬ P r) : zv w y r m' = zv w y r m := zv_fr (h.1 _ hw) (fun a h1 h2 => h.1 a (hy a h1 h2)) (h.1 _ hr)
theorem zq_now {m m' : zf_Me} (h : zq m m') : zv 2 3 8 m' = zv 2 3 8 m := zv_of h (by omega) (fun a _ _ => by omega) (by omega)
theorem JX_q {m m' : zf_Me} (hJ : JX m) (h : zq m m') : JX m' := by
  refine ⟨by rw [zq_now h]; exact hJ.1, ?_, fun j hj => ?_⟩
  · rw [zv_of h (w := 9) (y := 10) (r := 15) (by omega) (fun a _ _ => by omega) (by omega)]
    exact hJ.2.1
  · rw [h.1 _ (by omega)]
    exact hJ.2.2 j hj
theorem zfc_q {m m' : zf_Me} (h : zq m m') : zfc m m' := zfc_of h (fun a ha => by omega)
theorem zfR_q {m m' : zf_Me} (h : zfR m m') : zq m m' := zfr_mono h (fun a ha => by omega)
section
variable {m : zf_Me}
theorem zs_109 {w : Int32} (hw : 0 ≤ w.toInt ∧ w.toInt < 8) {Q : Int32 → zf_Me → Prop} (hq : ∀ m', zfr (fun a => a = 46) m m' → Q (-w) m') : wp_109 w m Q :=
  ⟨hw, hw, fun m1 q1 => hq m1 (by rw [q1]; exact zfr_u zfr_refl rfl)⟩
theorem zk_109 {w : Int32} (hw : 0 ≤ w.toInt ∧ w.toInt < 8) {Q : Int32 → zf_Me → Prop} (K : ∀ v m', zq m m' → Q v m') : wp_109 w m Q :=
  zs_109 hw (fun m' f => K _ m' (zfr_mono f (fun a ha => by omega)))
theorem zk_110 {w : Int32} (hw : 0 ≤ w.toInt ∧ w.toInt < 8) {Q : Int32 → zf_Me → Prop} (K : ∀ v m', zq m m' → Q v m') : wp_110 w m Q :=
  ⟨hw, hw, fun m1 q1 => K _ m1 (by rw [q1]; exact zfr_u zfr_refl (by omega))⟩
theorem zs_114 {v : Int32} {Q : Bool → zf_Me → Prop} (ht : 0 ≤ v.toInt ∧ v.toInt < 8 → Q true m) (hf : ¬ (0 ≤ v.toInt ∧ v.toInt < 8) → Q false m) : wp_114 v m Q :=
  ⟨fun g => hf (by omega), fun g => ⟨fun g2 => hf (by omega), fun g2 => ht (by omega)⟩⟩
theorem zs_115 {v : Int32} {Q : Bool → zf_Me → Prop} (ht : 0 ≤ v.toInt ∧ v.toInt < 7 → Q true m) (hf : ¬ (0 ≤ v.toInt ∧ v.toInt < 7) → Q false m) : wp_115 v m Q :=
  ⟨fun g => hf (by omega), fun g => ⟨fun g2 => hf (by omega), fun g2 => ht (by omega)⟩⟩
theorem zs_116 {v : Int32} {Q : Bool → zf_Me → Prop} (ht : 0 ≤ v.toInt ∧ v.toInt < 4 → Q true m) (hf : ¬ (0 ≤ v.toInt ∧ v.toInt < 4) → Q false m) : wp_116 v m Q :=
  ⟨fun g => hf (by omega), fun g => ⟨fun g2 => hf (by omega), fun g2 => ht (by omega)⟩⟩
theorem zs_111 {v : Int32} {Q : Int32 → zf_Me → Prop} (h0 : (0 ≤ v.toInt ∧ v.toInt < 8) → 100 ≤ (m.1 (47 + 2 * v.toInt.toNat) 1).toInt → Q 0 m) (h1 : ¬ (0 ≤ v.toInt ∧ v.toInt < 8) → Q 1 m) (h2 : (0 ≤ v.toInt ∧ v.toInt < 8) → (m.1 (47 + 2 * v.toInt.toNat) 1).toInt < 100 → ¬ (m.1 (47 + 2 * v.toInt.toNat) 1).toInt = -1 → Q 2 m) (h3 : (0 ≤ v.toInt ∧ v.toInt < 8) → (m.1 (47 + 2 * v.toInt.toNat) 1).toInt = -1 → Q 3 m) : wp_111 v m Q :=
  zs_114 (fun g => ⟨fun _ => ⟨g, fun k => ⟨fun _ => ⟨g, fun k2 => h2 g k k2, fun k2 => h3 g k2⟩, fun z => (nomatch z)⟩, fun k => ⟨fun z => (nomatch z), fun _ => h0 g k⟩⟩, fun z => (nomatch z)⟩) (fun g => ⟨fun z => (nomatch z), fun _ => h1 g⟩)
/-- only ints of shelves, longs of shelves -/
def zfS (m m' : zf_Me) : Prop := (∀ a, ¬ (47 ≤ a ∧ a ≤ 62) → m'.1 a = m.1 a) ∧ (∀ a, 63 ≤ a → m'.2 a = m.2 a)
theorem zfS_c {m m' : zf_Me} (h : zfS m m') : zfc m m' := fun a ha => ⟨h.1 a (by omega), h.2 a ha⟩
theorem JX_S {m m' : zf_Me} (hJ : JX m) (h : zfS m m') (hz : zsz m') : JX m' := by
  refine ⟨?_, ?_, hz⟩
  · rw [show zv 2 3 8 m' = zv 2 3 8 m from zv_fr (h.1 _ (by omega)) (fun a _ _ => h.1 _ (by omega)) (h.1 _ (by omega))]
    exact hJ.1
  · rw [show zv 9 10 15 m' = zv 9 10 15 m from zv_fr (h.1 _ (by omega)) (fun a _ _ => h.1 _ (by omega)) (h.1 _ (by omega))]
    exact hJ.2.1
theorem zs_22 {j : Nat} (hj : j < 8) {o n : Int32} (hn : 0 ≤ n.toInt ∧ n.toInt ≤ 160) {Q : zf_Me → Prop} (hq : ∀ m', (∀ a, ¬ a = 47 + 2 * j → m'.1 a = m.1 a) → m'.1 (47 + 2 * j) 1 = 100 + o → m'.1 (47 + 2 * j) 2 = n → (∀ a, ¬ a = 48 + 2 * j → m'.2 a = m.2 a) → (∀ k, k < n.toInt.toNat → m'.2 (48 + 2 * j) k = 0) → Q m') : wp_22 (47 + 2 * j) (48 + 2 * j) o n m Q := by
  have e1 : (1 : Int32).toInt = 1 := rfl
  have e0 : (0 : Int32).toInt = 0 := rfl
  intro m1 q1 m3 q3
  have lp : ∀ (k : Nat) (v : Int32) (mj : zf_Me), 0 ≤ v.toInt → v.toInt ≤ n.toInt → n.toInt - v.toInt < k → mj.1 = m3.1 → (∀ a, ¬ a = 48 + 2 * j → mj.2 a = m.2 a) → (∀ k, k < v.toInt.toNat → mj.2 (48 + 2 * j) k = 0) → wq_22_15 (47 + 2 * j) (48 + 2 * j) o n Q k v mj := by
    intro k
    induction k with
    | zero => intro v mj h0 h1 h2; omega
    | succ k ih =>
      intro v mj h0 h1 h2 hi hl hz
      have s := fb_addI (x := v) (y := 1) (by omega) (by omega)
      refine ⟨fun g => hq mj (fun a ha => ?_) ?_ ?_ hl (fun k hk => hz k (by omega)), fun g => ⟨⟨by omega, by omega⟩, fun m5 q5 => ih _ m5 (by omega) (by omega) (by omega) (by rw [q5]; exact hi) (fun a ha => ?_) (fun k hk => ?_)⟩⟩
      · rw [hi, q3, zf_u1 ha, q1, zf_u1 ha]
      · rw [hi, q3, zf_u4 (by decide), q1, zf_u3]
      · rw [hi, q3, zf_u3]
      · rw [q5]
        show (if a = 48 + 2 * j then _ else mj.2 a) = m.2 a
        rw [if_neg ha]
        exact hl a ha
      · rw [q5]
        show (if 48 + 2 * j = 48 + 2 * j then (fun b => if b = v.toInt.toNat then (0 : Int64) else mj.2 (48 + 2 * j) b) else _ : Nat → Int64) k = 0
        rw [if_pos rfl]
        show (if k = v.toInt.toNat then (0 : Int64) else mj.2 (48 + 2 * j) k) = 0
        split
        · rfl
        · exact hz k (by omega)
  exact ⟨162, lp 162 0 m3 (by omega) (by omega) (by omega) rfl (fun a _ => by rw [q3, q1]; rfl) (fun k hk => by omega)⟩
def zrowA (s o n : Int) : Int := if ¬ (0 ≤ s ∧ s < 8) then -1 else if n < 0 then -4 else if ¬ (0 ≤ o ∧ o < 4) then -6 else if 160 < n then -7 else 1
theorem zs_20 {c r : Nat} {i : Int32} {Q : Bool → zf_Me → Prop} (ht : 0 ≤ i.toInt ∧ i.toInt < (m.1 c 2).toInt → Q true m) (hf : ¬ (0 ≤ i.toInt ∧ i.toInt < (m.1 c 2).toInt) → Q false m) : wp_20 c r i m Q :=
  ⟨fun g => hf (by omega), fun g => ⟨fun g2 => hf (by omega), fun g2 => ht (by omega)⟩⟩
theorem zfS_l {c i : Nat} {x : Int64} (hc : c < 63) : zfS m (zf_ul m c i x) := ⟨fun _ _ => rfl, fun a ha => if_neg (by omega)⟩
theorem zs_21 {c r : Nat} {i n : Int32} (hz : 0 ≤ (m.1 c 2).toInt ∧ (m.1 c 2).toInt ≤ 160) {Q : Bool → zf_Me → Prop} (ht : 0 ≤ i.toInt ∧ 0 ≤ n.toInt ∧ i.toInt + n.toInt ≤ (m.1 c 2).toInt → Q true m) (hf : ¬ (0 ≤ i.toInt ∧ 0 ≤ n.toInt ∧ i.toInt + n.toInt ≤ (m.1 c 2).toInt) → Q false m) : wp_21 c r i n m Q := by
  refine ⟨fun g => hf (by omega), fun g => ⟨fun g2 => hf (by omega), fun g2 => ⟨fun g3 => hf (by omega), fun g3 => ?_⟩⟩⟩
  have s := fb_subI (x := m.1 c 2) (y := n) (by omega) (by omega)
  exact ⟨fun g4 => hf (by omega), fun g4 => ht (by omega)⟩
theorem zs_65t {y : Nat} {v : Int32} {Q : Bool → zf_Me → Prop} (ht : 0 ≤ v.toInt ∧ v.toInt < (m.1 y 5).toInt → Q true m) (hf : ¬ (0 ≤ v.toInt ∧ v.toInt < (m.1 y 5).toInt) → Q false m) : wp_65 y v m Q :=
  ⟨fun g => hf (by omega), fun g => ⟨fun g2 => hf (by omega), fun g2 => ht (by omega)⟩⟩
theorem zs_64t {y : Nat} {v : Int32} {Q : Bool → zf_Me → Prop} (ht : 0 ≤ v.toInt ∧ v.toInt < (m.1 y 4).toInt → Q true m) (hf : ¬ (0 ≤ v.toInt ∧ v.toInt < (m.1 y 4).toInt) → Q false m) : wp_64 y v m Q :=
  ⟨fun g => hf (by omega), fun g => ⟨fun g2 => hf (by omega), fun g2 => ht (by omega)⟩⟩
end
