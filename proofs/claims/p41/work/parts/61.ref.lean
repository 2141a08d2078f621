section
/-! part 61: the reference's walks keep to the same functions -/
def zgr' (P : Nat → Nat → Prop) (m m' : zf_Me) : Prop := (∀ a k, ¬ P a k → m'.1 a k = m.1 a k) ∧ m'.2 = m.2
theorem zgr_refl {P : Nat → Nat → Prop} {m : zf_Me} : zgr' P m m := ⟨fun _ _ _ => rfl, rfl⟩
theorem zgr_trans {P : Nat → Nat → Prop} {a b c : zf_Me} (h : zgr' P a b) (k : zgr' P b c) : zgr' P a c := ⟨fun i j hi => (k.1 i j hi).trans (h.1 i j hi), k.2.trans h.2⟩
theorem zgr_mono {P P' : Nat → Nat → Prop} {m m' : zf_Me} (h : zgr' P m m') (hp : ∀ a k, P a k → P' a k) : zgr' P' m m' := ⟨fun a k ha => h.1 a k (fun z => ha (hp a k z)), h.2⟩
theorem zgr_u {P : Nat → Nat → Prop} {m m' : zf_Me} {c k : Nat} {x : Int32} (h : zgr' P m m') (hc : P c k) : zgr' P m (zf_u m' c k x) := by
  refine ⟨fun a j ha => ?_, h.2⟩
  by_cases e : a = c
  · subst e
    by_cases f : j = k
    · subst f; exact absurd hc ha
    · rw [zf_u4 f]; exact h.1 _ _ ha
  · rw [zf_u1 e]; exact h.1 _ _ ha
/-- of the reference: the numbers and rows of its walk -/
abbrev zcore (a k : Nat) : Prop := (a = 63 ∧ k < 13) ∨ (65 ≤ a ∧ a ≤ 69)
abbrev zgc (m m' : zf_Me) : Prop := zgr' zcore m m'
theorem zr_of {P : Nat → Nat → Prop} {m m' : zf_Me} (h : zgr' P m m') (hp : ∀ a k, P a k → ¬ zcore a k) : zr m' = zr m := by
  refine zr_fr (fun k hk => h.1 63 k (fun z => hp _ _ z (Or.inl ⟨rfl, hk⟩))) (fun a h1 h2 => ?_)
  funext k
  exact h.1 a k (fun z => hp _ _ z (Or.inr ⟨h1, h2⟩))
section
variable {m : zf_Me}
theorem zs_125 {w : Int32} (hw : -8 < w.toInt ∧ w.toInt ≤ 0) {Q : Int32 → zf_Me → Prop} (hq : ∀ m', zgr' (fun a _ => a = 64) m m' → Q w m') : wp_125 w m Q := by
  have s := fb_negI (x := w) (by omega)
  exact ⟨by omega, by omega, fun m1 q1 => hq m1 (by rw [q1]; exact zgr_u zgr_refl rfl)⟩
theorem zs_126 {w : Int32} (hw : -8 < w.toInt ∧ w.toInt ≤ 0) {Q : Int32 → zf_Me → Prop} (hq : ∀ m', zgr' (fun a _ => a = 64) m m' → Q (w - 10) m') : wp_126 w m Q := by
  have s := fb_negI (x := w) (by omega)
  exact ⟨by omega, by omega, fun m1 q1 => hq m1 (by rw [q1]; exact zgr_u zgr_refl rfl)⟩
theorem zs_127 {v : Int32} {Q : Bool → zf_Me → Prop} (ht : 0 ≤ v.toInt ∧ v.toInt < 8 → Q true m) (hf : ¬ (0 ≤ v.toInt ∧ v.toInt < 8) → Q false m) : wp_127 v m Q :=
  ⟨fun g => hf (by omega), fun g => ⟨fun g2 => hf (by omega), fun g2 => ht (by omega)⟩⟩
theorem zs_180 {v : Int32} {Q : Bool → zf_Me → Prop} (ht : 0 ≤ v.toInt ∧ v.toInt ≤ 3 → Q true m) (hf : ¬ (0 ≤ v.toInt ∧ v.toInt ≤ 3) → Q false m) : wp_180 v m Q :=
  ⟨fun g => hf (by omega), fun g => ⟨fun g2 => hf (by omega), fun g2 => ht (by omega)⟩⟩
theorem zs_128 {v : Int32} {Q : Bool → zf_Me → Prop} (ht : 0 ≤ v.toInt ∧ v.toInt < (m.1 63 1).toInt → Q true m) (hf : ¬ (0 ≤ v.toInt ∧ v.toInt < (m.1 63 1).toInt) → Q false m) : wp_128 v m Q :=
  ⟨fun g => hf (by omega), fun g => ⟨fun g2 => hf (by omega), fun g2 => ht (by omega)⟩⟩
theorem zs_129 {v : Int32} {Q : Bool → zf_Me → Prop} (ht : 0 ≤ v.toInt ∧ v.toInt < (m.1 63 0).toInt → Q true m) (hf : ¬ (0 ≤ v.toInt ∧ v.toInt < (m.1 63 0).toInt) → Q false m) : wp_129 v m Q :=
  ⟨fun g => hf (by omega), fun g => ⟨fun g2 => hf (by omega), fun g2 => ht (by omega)⟩⟩
theorem zs_140 (hp : 0 ≤ (m.1 63 0).toInt ∧ (m.1 63 0).toInt < 24) {s t : Int32} {Q : Int32 → zf_Me → Prop} (hq : ∀ m', zr m' = zaddF (zr m) s.toInt t.toInt → zgc m m' → Q (m.1 63 0) m') : wp_140 s t m Q := by
  have e1 : (1 : Int32).toInt = 1 := rfl
  refine ⟨hp, fun m1 q1 => ?_⟩
  have c1 : m1.1 63 0 = m.1 63 0 := by rw [q1, zf_u1 (by decide)]
  rw [c1]
  refine ⟨hp, fun m3 q3 m5 q5 => ?_⟩
  have c3 : m3.1 63 0 = m.1 63 0 := by rw [q3, zf_u1 (by decide), c1]
  rw [c3]
  refine hq m5 ?_ ?_
  · rw [q5, zr_w0, q3, zr_a1 (by omega), q1, zr_a0 (by omega), ← q1, ← q3, c3, fb_addI (by omega) (by omega), e1]
    rfl
  · rw [q5, q3, q1]
    exact zgr_u (zgr_u (zgr_u zgr_refl (by omega)) (by omega)) (by omega)
theorem zs_141 (hp : 0 ≤ (m.1 63 1).toInt ∧ (m.1 63 1).toInt < 6) {k a : Int32} {Q : Int32 → zf_Me → Prop} (hq : ∀ m', zr m' = zaddP (zr m) k.toInt a.toInt → zgc m m' → Q (m.1 63 1) m') : wp_141 k a m Q := by
  have e1 : (1 : Int32).toInt = 1 := rfl
  have e0 : (0 : Int32).toInt = 0 := rfl
  refine ⟨hp, fun m1 q1 => ?_⟩
  have c1 : m1.1 63 1 = m.1 63 1 := by rw [q1, zf_u1 (by decide)]
  rw [c1]
  refine ⟨hp, fun m3 q3 => ?_⟩
  have c3 : m3.1 63 1 = m.1 63 1 := by rw [q3, zf_u1 (by decide), c1]
  rw [c3]
  refine ⟨hp, fun m5 q5 m7 q7 => ?_⟩
  have c5 : m5.1 63 1 = m.1 63 1 := by rw [q5, zf_u1 (by decide), c3]
  rw [c5]
  refine hq m7 ?_ ?_
  · rw [q7, zr_w1, q5, zr_a4 (by omega), q3, zr_a3 (by omega), q1, zr_a2 (by omega), ← q1, ← q3, ← q5, c5, fb_addI (by omega) (by omega), e1, e0]
    rfl
  · rw [q7, q5, q3, q1]
    exact zgr_u (zgr_u (zgr_u (zgr_u zgr_refl (by omega)) (by omega)) (by omega)) (by omega)
theorem zs_146 {w v : Int32} (hw : 0 ≤ w.toInt) {Q : Bool → zf_Me → Prop} (ht : zlo w.toInt.toNat ≤ v.toInt ∧ v.toInt ≤ zhi w.toInt.toNat → Q true m) (hf : ¬ (zlo w.toInt.toNat ≤ v.toInt ∧ v.toInt ≤ zhi w.toInt.toNat) → Q false m) : wp_146 w v m Q := by
  have t11 : ∀ u0 : Int32, u0.toInt = zlo w.toInt.toNat → wq_146_11 w v u0 v m Q := by
    intro u0 hu
    have h2 : w.toInt = 2 → zhi w.toInt.toNat = 99 := fun z => by unfold zhi; rw [if_pos (by omega)]
    have h9 : ¬ w.toInt = 2 → zhi w.toInt.toNat = 9 := fun z => by unfold zhi; rw [if_neg (by omega)]
    exact ⟨fun g => hf (by omega), fun g => ⟨fun k => ⟨fun g2 => hf (by rw [h9 k]; omega), fun g2 => ht (by rw [h9 k]; omega)⟩, fun k => ⟨fun g2 => hf (by rw [h2 k]; omega), fun g2 => ht (by rw [h2 k]; omega)⟩⟩⟩
  unfold wp_146
  refine ⟨fun g => t11 _ ?_, fun g => t11 _ ?_⟩
  · unfold zlo
    first | (rw [if_neg (by omega)]; rfl) | (rw [if_pos (by omega)]; rfl)
  · unfold zlo
    first | (rw [if_pos (by omega)]; rfl) | (rw [if_neg (by omega)]; rfl)
theorem zs_147 {w : Int32} (hw : 0 ≤ w.toInt ∧ w.toInt < 5) {Q : Int32 → zf_Me → Prop} (hq : ∀ x : Int32, x.toInt = zr m 5 w.toInt.toNat → Q x m) : wp_147 w m Q := by
  refine ⟨fun g => ⟨fun g1 => ⟨fun g2 => ⟨fun g3 => hq _ ?_, fun g3 => hq _ ?_⟩, fun g2 => hq _ ?_⟩, fun g1 => hq _ ?_⟩, fun g => hq _ ?_⟩
  · rw [show w.toInt.toNat = 4 by omega]; rfl
  · rw [g3]; rfl
  · rw [g2]; rfl
  · rw [g1]; rfl
  · rw [g]; rfl
theorem zs_148 {w v : Int32} (hw : 0 ≤ w.toInt ∧ w.toInt < 5) {Q : zf_Me → Prop} (hq : ∀ m', zr m' = zU (zr m) 5 w.toInt.toNat v.toInt → zgc m m' → Q m') : wp_148 w v m Q := by
  refine ⟨fun g m1 q1 => hq m1 ?_ ?_, fun g m1 q1 => hq m1 ?_ ?_, fun g m1 q1 => hq m1 ?_ ?_, fun g m1 q1 => hq m1 ?_ ?_, fun g m1 q1 => hq m1 ?_ ?_⟩
  · rw [q1, zr_w8, show w.toInt.toNat = 4 by omega]
  · rw [q1]; exact zgr_u zgr_refl (by omega)
  · rw [q1, zr_w4, g]; rfl
  · rw [q1]; exact zgr_u zgr_refl (by omega)
  · rw [q1, zr_w5, g]; rfl
  · rw [q1]; exact zgr_u zgr_refl (by omega)
  · rw [q1, zr_w9, g]; rfl
  · rw [q1]; exact zgr_u zgr_refl (by omega)
  · rw [q1, zr_w7, g]; rfl
  · rw [q1]; exact zgr_u zgr_refl (by omega)
theorem zU_id {f : zS} {c k : Nat} : zU f c k (f c k) = f := by
  funext a b
  unfold zU
  split
  · rename_i h
    rw [h.1, h.2]
  · rfl
theorem zs_149 {w v : Int32} (hw : 0 ≤ w.toInt ∧ w.toInt < 5) {Q : Int32 → zf_Me → Prop} (hq : ∀ (x : Int32) (m' : zf_Me), x.toInt = zr m 5 w.toInt.toNat → zr m' = zask (zr m) w.toInt.toNat v.toInt → zgc m m' → Q x m') : wp_149 w v m Q := by
  refine zs_147 hw (fun x hx => zs_148 hw (fun m4 z4 f4 => ⟨fun g => hq x m4 hx ?_ f4, fun g => ?_⟩))
  · rw [z4]
    unfold zask
    rw [if_neg (by omega)]
  · have w0 : w.toInt.toNat = 0 := by omega
    have c3 : (m4.1 63 3).toInt = (m.1 63 3).toInt := by
      show zr m4 5 8 = _
      rw [z4, w0]
      rfl
    have st : zask (zr m) w.toInt.toNat v.toInt = zU (zU (zr m) 5 0 v.toInt) 5 8 (if v.toInt < (m.1 63 3).toInt then v.toInt else (m.1 63 3).toInt) := by
      unfold zask
      rw [if_pos w0]
      rfl
    refine ⟨fun g2 => hq x m4 hx ?_ f4, fun g2 m5 q5 => hq x m5 hx ?_ (by rw [q5]; exact zgr_u f4 (by omega))⟩
    · rw [st, z4, w0, if_neg (by omega)]
      exact zU_id.symm
    · rw [st, q5, zr_w3, z4, w0, if_pos (by omega)]
theorem zs_164 {Q : Bool → zf_Me → Prop} (hq : ∀ b, (b = true ↔ ¬ (m.1 63 6).toInt < (m.1 63 5).toInt) → Q b m) : wp_164 m Q :=
  ⟨fun g => hq false (zb_f (by omega)), fun g => hq true (zb_t (by omega))⟩
theorem zs_165 (hB : zB (zr m)) {p v : Int32} (hp : 0 ≤ p.toInt ∧ p.toInt < 6) (hv : -3 ≤ v.toInt ∧ v.toInt ≤ 3) {Q : Int32 → zf_Me → Prop} (hq : ∀ x : Int32, x.toInt = zload (zr m) p.toInt.toNat v.toInt → Q x m) : wp_165 p v m Q := by
  have b3 := zB_r3 hB (k := p.toInt.toNat) (by omega)
  have e4 : (4 : Int32).toInt = 4 := rfl
  have e2 : (2 : Int32).toInt = 2 := rfl
  have e1 : (1 : Int32).toInt = 1 := rfl
  have n1 : (-1 : Int32).toInt = -1 := rfl
  have n2 : (-2 : Int32).toInt = -2 := rfl
  have a2 : zr m 2 p.toInt.toNat = (m.1 67 p.toInt.toNat).toInt := zN_lt (by omega)
  have a4 : zr m 4 p.toInt.toNat = (m.1 69 p.toInt.toNat).toInt := zN_lt (by omega)
  have a7 : zr m 5 7 = (m.1 63 2).toInt := rfl
  have s1 := fb_addI (x := 4) (y := v) (by omega) (by omega)
  have tl : ∀ x : Int32, x.toInt = 4 + v.toInt + zmore (m.1 67 p.toInt.toNat).toInt + (if (m.1 67 p.toInt.toNat).toInt = 6 then (m.1 69 p.toInt.toNat).toInt / 10 else 0) → wq_165_89 p v x m Q := by
    intro x hx
    have hb := zmore_b (m.1 67 p.toInt.toNat).toInt
    have hd : 0 ≤ (if (m.1 67 p.toInt.toNat).toInt = 6 then (m.1 69 p.toInt.toNat).toInt / 10 else 0) ∧ (if (m.1 67 p.toInt.toNat).toInt = 6 then (m.1 69 p.toInt.toNat).toInt / 10 else 0) ≤ 10 := by split <;> omega
    have s4 := fb_addI (x := x) (y := 2) (by omega) (by omega)
    have fin : ∀ z : Int32, z.toInt = zld (m.1 67 p.toInt.toNat).toInt (m.1 69 p.toInt.toNat).toInt v.toInt ((m.1 63 2).toInt = (p.toInt.toNat : Int)) → wq_165_100 p v z m Q := by
      intro z hz
      refine ⟨fun g => hq z ?_, fun g => hq 1 ?_⟩
      · unfold zload
        rw [a2, a4, a7, ← hz, if_neg (by omega)]
      · unfold zload
        rw [a2, a4, a7, ← hz, if_pos (by omega)]
        rfl
    refine ⟨fun g => fin x ?_, fun g => fin _ ?_⟩
    · rw [hx]
      unfold zld
      rw [if_neg (c := (m.1 63 2).toInt = _) (by omega)]
      omega
    · rw [s4, hx]
      unfold zld
      rw [if_pos (c := (m.1 63 2).toInt = _) (by omega)]
      omega
  have hd := zf_divI (x := m.1 69 p.toInt.toNat) (by omega)
  refine ⟨by omega, fun g => tl _ ?_, fun g => tl _ ?_, fun g => tl _ ?_, fun g => tl _ ?_, fun g => tl _ ?_, fun g => tl _ ?_, fun g => ⟨by omega, tl _ ?_⟩⟩
  · have k0 : (m.1 67 p.toInt.toNat).toInt = 0 := by omega
    rw [s1, k0]
    rw [e4, show zmore 0 = 0 from rfl, if_neg (by decide)]
    omega
  · rw [fb_addI (by omega) (by omega), s1, g, n1]
    rw [e4, show zmore 1 = -1 from rfl, if_neg (by decide)]
    omega
  · rw [fb_addI (by omega) (by omega), s1, g, e1]
    rw [e4, show zmore 2 = 1 from rfl, if_neg (by decide)]
    omega
  · rw [fb_addI (by omega) (by omega), s1, g, n2]
    rw [e4, show zmore 3 = -2 from rfl, if_neg (by decide)]
    omega
  · rw [fb_addI (by omega) (by omega), s1, g, e2]
    rw [e4, show zmore 4 = 2 from rfl, if_neg (by decide)]
    omega
  · rw [s1, g, e4, show zmore 5 = 0 from rfl, if_neg (by decide)]
    omega
  · have s5 := fb_addI (x := 2) (y := m.1 69 p.toInt.toNat / 10) (by omega) (by omega)
    rw [fb_addI (by omega) (by omega), s1, s5, hd, g, e4, e2, if_pos rfl, show zmore 6 = 2 from rfl]
    omega
theorem zs_166 (hB : zB (zr m)) {v : Int32} {Q : Bool → zf_Me → Prop} (hq : ∀ b, (b = true ↔ zcarryOk (zr m) v.toInt) → Q b m) : wp_166 v m Q := by
  have b := zB_r hB
  refine zs_128 (fun hp => ⟨fun z => (nomatch z), fun _ => ⟨fun g => hq false (zb_f (fun z => by have : (m.1 63 10).toInt < (m.1 63 0).toInt := z.2.1; omega)), fun hh => ?_⟩⟩) (fun h => ⟨fun _ => hq false (zb_f (fun z => h z.1)), fun z => (nomatch z)⟩)
  have b2 := zB_r2 hB (k := (m.1 63 10).toInt.toNat) (by omega)
  have b3 := zB_r3 hB (k := v.toInt.toNat) (by omega)
  have a2 : zr m 2 v.toInt.toNat = (m.1 67 v.toInt.toNat).toInt := zN_lt (by omega)
  have a4 : zr m 4 v.toInt.toNat = (m.1 69 v.toInt.toNat).toInt := zN_lt (by omega)
  have sl : zslope (zr m) = (m.1 65 (m.1 63 10).toInt.toNat).toInt := zN_lt (k := (m.1 63 10).toInt.toNat) (by omega)
  have key : zcarryOk (zr m) v.toInt ↔ ((0 ≤ v.toInt ∧ v.toInt < (m.1 63 1).toInt) ∧ (m.1 63 10).toInt < (m.1 63 0).toInt ∧ ¬ (((m.1 67 v.toInt.toNat).toInt = 2 ∨ (m.1 67 v.toInt.toNat).toInt = 5) ∧ (m.1 63 6).toInt < (m.1 63 5).toInt) ∧ ¬ ((m.1 67 v.toInt.toNat).toInt = 6 ∧ 1 < (m.1 65 (m.1 63 10).toInt.toNat).toInt) ∧ (m.1 69 v.toInt.toNat).toInt + zload (zr m) v.toInt.toNat (m.1 65 (m.1 63 10).toInt.toNat).toInt ≤ (m.1 63 9).toInt) := by
    unfold zcarryOk
    rw [a2, sl, a4]
    exact Iff.rfl
  have lb := zload_b (f := zr m) (p := v.toInt.toNat) (v := (m.1 65 (m.1 63 10).toInt.toNat).toInt) (by omega) (by omega)
  refine ⟨by omega, by omega, zs_165 hB (by omega) (by omega) (fun x hx => ?_)⟩
  have s := fb_addI (x := m.1 69 v.toInt.toNat) (y := x) (by omega) (by omega)
  refine ⟨fun g => ⟨by omega, ?_⟩, fun g => hq false (zb_f (fun z => by have := (key.mp z).2.2.2.2; omega))⟩
  have t73 : ¬ (((m.1 67 v.toInt.toNat).toInt = 2 ∨ (m.1 67 v.toInt.toNat).toInt = 5) ∧ (m.1 63 6).toInt < (m.1 63 5).toInt) → wq_166_73 v (m.1 67 v.toInt.toNat) m Q := fun g1 =>
    ⟨fun g2 => hq true (zb_t (key.mpr ⟨hp, hh, g1, fun z => g2 z.1, by omega⟩)), fun g2 => ⟨by omega, fun g3 => hq false (zb_f (fun z => (key.mp z).2.2.2.1 ⟨g2, g3⟩)), fun g3 => hq true (zb_t (key.mpr ⟨hp, hh, g1, fun z => by omega, by omega⟩))⟩⟩
  have t66 : ((m.1 67 v.toInt.toNat).toInt = 2 ∨ (m.1 67 v.toInt.toNat).toInt = 5) → wq_166_66 v (m.1 67 v.toInt.toNat) m Q := fun g1 =>
    zs_164 (fun b5 h5 => (And.intro (fun e5 => hq false (zb_f (fun z => (key.mp z).2.2.1 ⟨g1, Decidable.byContradiction (fun q => by rw [h5.mpr q] at e5; cases e5)⟩))) (fun e5 => t73 (fun z => (h5.mp e5) z.2))))
  exact ⟨fun g => t66 (Or.inl g), fun g => ⟨fun g2 => t73 (fun z => by omega), fun g2 => t66 (Or.inr g2)⟩⟩
theorem zs_167 (hB : zB (zr m)) {a : Int32} (ha : a.toInt ≤ 9) {Q : Bool → zf_Me → Prop} (hq : ∀ b, (b = true ↔ zmay (zr m) a.toInt) → Q b m) : wp_167 a m Q := by
  have b := zB_r hB
  have e1 : (1 : Int32).toInt = 1 := rfl
  have s : (m.1 63 10 - 1).toInt = (m.1 63 10).toInt - 1 := fb_subI (x := m.1 63 10) (y := 1) (by omega) (by omega)
  have st : ¬ (m.1 63 10).toInt = 0 → zr m 1 ((m.1 63 10).toInt - 1).toNat = (m.1 66 (m.1 63 10 - 1).toInt.toNat).toInt := fun z => by
    rw [s]
    exact zN_lt (by omega)
  have k6 : a.toInt = 6 → (zmay (zr m) a.toInt ↔ ((m.1 63 10).toInt < (m.1 63 0).toInt ∧ (m.1 63 6).toInt < (m.1 63 5).toInt) ∧ 1 ≤ (m.1 63 3).toInt) := fun g => ⟨fun z => by
      rcases z with z | z | z | z | z
      · exact z.2
      · omega
      · omega
      · omega
      · omega, fun z => Or.inl ⟨g, z⟩⟩
  have k7 : a.toInt = 7 → (zmay (zr m) a.toInt ↔ ((m.1 63 10).toInt < (m.1 63 0).toInt ∧ (m.1 63 6).toInt < (m.1 63 5).toInt) ∧ 1 ≤ (m.1 63 7).toInt) := fun g => ⟨fun z => by
      rcases z with z | z | z | z | z
      · omega
      · exact z.2
      · omega
      · omega
      · omega, fun z => Or.inr (Or.inl ⟨g, z⟩)⟩
  have k8 : a.toInt = 8 → (zmay (zr m) a.toInt ↔ ((m.1 63 10).toInt < (m.1 63 0).toInt ∧ (m.1 63 6).toInt < (m.1 63 5).toInt) ∧ 1 ≤ (m.1 63 8).toInt) := fun g => ⟨fun z => by
      rcases z with z | z | z | z | z
      · omega
      · omega
      · exact z.2
      · omega
      · omega, fun z => Or.inr (Or.inr (Or.inl ⟨g, z⟩))⟩
  have k9 : a.toInt = 9 → (zmay (zr m) a.toInt ↔ (m.1 63 11).toInt ≤ 900 ∧ ((m.1 63 10).toInt = 0 ∨ zr m 1 ((m.1 63 10).toInt - 1).toNat = 1)) := fun g => ⟨fun z => by
      rcases z with z | z | z | z | z
      · omega
      · omega
      · omega
      · exact z.2
      · omega, fun z => Or.inr (Or.inr (Or.inr (Or.inl ⟨g, z⟩)))⟩
  refine ⟨fun g => ⟨fun n9 => ⟨fun g2 => hq false (zb_f (fun z => ?_)), fun g2 => zs_164 (fun b1 h1 => ⟨fun e => ?_, fun e => hq false (zb_f (fun z => ?_))⟩)⟩, fun y9 => ⟨fun g2 => hq false (zb_f (fun z => by have := ((k9 y9).mp z).1; omega)), fun g2 => ⟨fun g3 => hq true (zb_t ((k9 y9).mpr ⟨g2, Or.inl g3⟩)), fun g3 => ⟨by omega, fun g4 => hq false (zb_f (fun z => ?_)), fun g4 => hq true (zb_t ((k9 y9).mpr ⟨g2, Or.inr ((st g3).trans g4)⟩))⟩⟩⟩⟩, fun g => zs_166 hB (fun b1 h1 => hq b1 (h1.trans ⟨fun z => Or.inr (Or.inr (Or.inr (Or.inr ⟨by omega, by omega, by omega, by omega, z⟩))), fun z => ?_⟩))⟩
  · rcases z with z | z | z | z | z
    · have : (m.1 63 10).toInt < (m.1 63 0).toInt := z.2.1.1; omega
    · have : (m.1 63 10).toInt < (m.1 63 0).toInt := z.2.1.1; omega
    · have : (m.1 63 10).toInt < (m.1 63 0).toInt := z.2.1.1; omega
    · omega
    · have : (m.1 63 10).toInt < (m.1 63 0).toInt := z.2.2.2.2.2.1; omega
  · have aw : (m.1 63 6).toInt < (m.1 63 5).toInt := Decidable.byContradiction (fun z => by rw [h1.mpr z] at e; cases e)
    exact ⟨fun n6 => ⟨fun n7 => ⟨fun g3 => hq false (zb_f (fun z => by have := ((k8 (by omega)).mp z).2; omega)), fun g3 => hq true (zb_t ((k8 (by omega)).mpr ⟨⟨g2, aw⟩, g3⟩))⟩, fun y7 => ⟨fun g3 => hq false (zb_f (fun z => by have := ((k7 y7).mp z).2; omega)), fun g3 => hq true (zb_t ((k7 y7).mpr ⟨⟨g2, aw⟩, g3⟩))⟩⟩, fun y6 => ⟨fun g3 => hq false (zb_f (fun z => by have := ((k6 y6).mp z).2; omega)), fun g3 => hq true (zb_t ((k6 y6).mpr ⟨⟨g2, aw⟩, g3⟩))⟩⟩
  · have na := h1.mp e
    rcases z with z | z | z | z | z
    · exact na z.2.1.2
    · exact na z.2.1.2
    · exact na z.2.1.2
    · omega
    · have := z.2.2.2.2.1; omega
  · rcases ((k9 y9).mp z).2 with q | q
    · exact g3 q
    · rw [st g3] at q
      exact g4 q
  · rcases z with z | z | z | z | z
    · omega
    · omega
    · omega
    · omega
    · exact z.2.2.2.2
theorem zs_170 (hB : zB (zr m)) {Q : Int32 → zf_Me → Prop} (hq : ∀ x : Int32, x.toInt = zgr (zr m) (m.1 63 1).toInt.toNat → Q x m) : wp_170 m Q := by
  have b := zB_r hB
  have e1 : (1 : Int32).toInt = 1 := rfl
  have e0 : (0 : Int32).toInt = 0 := rfl
  have lp : ∀ (n : Nat) (v1 v2 : Int32), 0 ≤ v2.toInt → v2.toInt ≤ (m.1 63 1).toInt → (m.1 63 1).toInt - v2.toInt < n → v1.toInt = zgr (zr m) v2.toInt.toNat → wq_170_4 Q n v1 v2 m := by
    intro n
    induction n with
    | zero => intro v1 v2 h0 h1 h2; omega
    | succ n ih =>
      intro v1 v2 h0 h1 h2 h3
      refine ⟨fun g => hq v1 (by rw [h3, show v2.toInt = (m.1 63 1).toInt by omega]), fun g => ?_⟩
      have s := fb_addI (x := v2) (y := 1) (by omega) (by omega)
      have a4 : zr m 4 v2.toInt.toNat = (m.1 69 v2.toInt.toNat).toInt := zN_lt (by omega)
      have st : zgr (zr m) (v2 + 1).toInt.toNat = if v1.toInt < (m.1 69 v2.toInt.toNat).toInt then (m.1 69 v2.toInt.toNat).toInt else v1.toInt := by
        rw [show (v2 + 1).toInt.toNat = v2.toInt.toNat + 1 by omega]
        show (if _ < _ then _ else _) = _
        rw [a4, h3]
      exact ⟨by omega, fun g2 => ih _ _ (by omega) (by omega) (by omega) (by rw [st, if_neg (by omega)]), fun g2 => ⟨by omega, ih _ _ (by omega) (by omega) (by omega) (by rw [st, if_pos (by omega)])⟩⟩
  exact ⟨7, lp 7 0 0 (by omega) (by omega) (by omega) rfl⟩
end
end
section
/-! part 62: the reference's acts -/
theorem zrestA_u5 {f : zS} {n k : Nat} {x : Int} : zU (zrestA f n) 5 k x = zrestA (zU f 5 k x) n := by
  funext c j
  by_cases e : c = 5 ∧ j = k
  · obtain ⟨rfl, rfl⟩ := e
    rw [zU_s, zrestA_n (by decide), zU_s]
  · rw [zU_o e]
    show (if c = 4 ∧ j < n then (if 0 < f 4 j - 6 then f 4 j - 6 else 0) else f c j) = (if c = 4 ∧ j < n then (if 0 < zU f 5 k x 4 j - 6 then zU f 5 k x 4 j - 6 else 0) else zU f 5 k x c j)
    rw [zU_o e, zU_o (a := 4) (by omega)]
theorem zrestO_car {f : zS} {car : Int} {n : Nat} (h : ∀ k : Nat, k < n → ¬ (k : Int) = car) : zrestO f car n = zrestO f (-1) n := by
  funext c k
  unfold zrestO
  by_cases g : c = 4 ∧ k < n
  · rw [if_pos ⟨g.1, g.2, h k g.2⟩, if_pos ⟨g.1, g.2, by omega⟩]
  · rw [if_neg (fun z => g ⟨z.1, z.2.1⟩), if_neg (fun z => g ⟨z.1, z.2.1⟩)]
section
variable {m : zf_Me}
theorem zs_168 {p y : Int32} (hp : 0 ≤ p.toInt ∧ p.toInt < 6) (ht : 0 ≤ (m.1 69 p.toInt.toNat).toInt ∧ (m.1 69 p.toInt.toNat).toInt ≤ 1000) (hy : -1000 ≤ y.toInt ∧ y.toInt ≤ 1000) {Q : zf_Me → Prop} (hq : ∀ m', zr m' = zU (zr m) 4 p.toInt.toNat (if 0 < zr m 4 p.toInt.toNat - y.toInt then zr m 4 p.toInt.toNat - y.toInt else 0) → zgc m m' → Q m') : wp_168 p y m Q := by
  have a4 : zr m 4 p.toInt.toNat = (m.1 69 p.toInt.toNat).toInt := zN_lt (by omega)
  have e0 : (0 : Int32).toInt = 0 := rfl
  refine ⟨hp, fun g => ⟨hp, fun m1 q1 => hq m1 ?_ ?_⟩, fun g => ⟨hp, hp, fun m3 q3 => hq m3 ?_ ?_⟩⟩
  · rw [q1, zr_a4 (by omega), a4, if_neg (by omega), e0]
  · rw [q1]; exact zgr_u zgr_refl (by omega)
  · rw [q3, zr_a4 (by omega), a4, if_pos (by omega), fb_subI (by omega) (by omega)]
  · rw [q3]; exact zgr_u zgr_refl (by omega)
theorem zs_169l {a : Int32} (h3 : zB3 (zr m)) (hp : 0 ≤ (m.1 63 1).toInt ∧ (m.1 63 1).toInt ≤ 6) (hh : 0 ≤ (m.1 63 10).toInt ∧ (m.1 63 10).toInt ≤ 100) {Q : zf_Me → Prop} (hq : ∀ m', zr m' = zU (zrestO (zr m) a.toInt (m.1 63 1).toInt.toNat) 5 10 ((m.1 63 10).toInt + 1) → zgc m m' → Q m') : ∃ n300, wq_169_300 a Q n300 0 m := by
  have e1 : (1 : Int32).toInt = 1 := rfl
  have e0 : (0 : Int32).toInt = 0 := rfl
  have e2 : (2 : Int32).toInt = 2 := rfl
  have e3 : (3 : Int32).toInt = 3 := rfl
  have lp : ∀ (n : Nat) (v : Int32) (mj : zf_Me), 0 ≤ v.toInt → v.toInt ≤ (m.1 63 1).toInt → (m.1 63 1).toInt - v.toInt < n → zr mj = zrestO (zr m) a.toInt v.toInt.toNat → zgc m mj → wq_169_300 a Q n v mj := by
    intro n
    induction n with
    | zero => intro v mj h0 h1 h2; omega
    | succ n ih =>
      intro v mj h0 h1 h2 hz hf
      have s := fb_addI (x := v) (y := 1) (by omega) (by omega)
      have en : v.toInt < (m.1 63 1).toInt → (v + 1).toInt.toNat = v.toInt.toNat + 1 := fun _ => by omega
      have c1 : (mj.1 63 1).toInt = (m.1 63 1).toInt := by
        show zr mj 5 6 = _
        rw [hz, zrestO_n (by decide)]
        rfl
      have c2 : (mj.1 63 2).toInt = zr m 5 7 := by
        show zr mj 5 7 = _
        rw [hz, zrestO_n (by decide)]
      have c10 : (mj.1 63 10).toInt = (m.1 63 10).toInt := by
        show zr mj 5 10 = _
        rw [hz, zrestO_n (by decide)]
        rfl
      refine ⟨fun g m7 q7 => hq m7 ?_ (by rw [q7]; exact zgr_u hf (by omega)), fun g => ⟨fun g2 => ⟨by omega, ?_⟩, fun g2 => ih _ mj (by omega) (by omega) (by omega) ?_ hf⟩⟩
      · rw [q7, zr_w10, hz, fb_addI (by omega) (by omega), c10, e1, show v.toInt = (m.1 63 1).toInt by omega]
      · have b3 := h3 v.toInt.toNat (by omega)
        have a4 : zr mj 4 v.toInt.toNat = zr m 4 v.toInt.toNat := by rw [hz, zrestO_ge (by omega)]
        have a4' : zr mj 4 v.toInt.toNat = (mj.1 69 v.toInt.toNat).toInt := zN_lt (by omega)
        have a2 : (mj.1 67 v.toInt.toNat).toInt = zr m 2 v.toInt.toNat := by
          have z : zr mj 2 v.toInt.toNat = (mj.1 67 v.toInt.toNat).toInt := zN_lt (by omega)
          rw [← z, hz, zrestO_n (by decide)]
        have st : ∀ y : Int32, y.toInt = (if zr m 2 v.toInt.toNat = 3 then 3 else 2) - (if zr m 5 7 = (v.toInt.toNat : Int) then 1 else 0) → wp_168 v y mj (fun m10 => wq_169_300 a Q n (v + 1) m10) := by
          intro y hy
          have yb : -1 ≤ y.toInt ∧ y.toInt ≤ 3 := by rw [hy]; split <;> split <;> omega
          refine zs_168 (by omega) (by omega) (by omega) (fun m' z' f' => ih _ m' (by omega) (by omega) (by omega) ?_ (zgr_trans hf f'))
          rw [z', hz, en (by omega), zrestO_go (by omega), zrestO_ge (by omega), hy]
        have fin : ∀ u : Int32, u.toInt = (if zr m 2 v.toInt.toNat = 3 then 3 else 2) → wq_169_337 a (wq_169_300 a Q n) v u v mj Q := by
          intro u hu
          have ub : 2 ≤ u.toInt ∧ u.toInt ≤ 3 := by rw [hu]; split <;> omega
          refine ⟨fun g3 => st _ ?_, fun g3 => st _ ?_⟩
          · rw [fb_subI (by omega) (by omega), e0, hu, if_neg (c := zr m 5 7 = _) (by omega)]
          · rw [fb_subI (by omega) (by omega), e1, hu, if_pos (c := zr m 5 7 = _) (by omega)]
        exact ⟨fun g3 => fin 2 (by rw [if_neg (by rw [← a2]; exact g3)]; rfl), fun g3 => fin 3 (by rw [if_pos (by rw [← a2]; exact g3)]; rfl)⟩
      · rw [hz, en (by omega), zrestO_skip (by omega)]
  exact ⟨7, lp 7 0 m (by omega) (by omega) (by omega) zrestO_0.symm zgr_refl⟩
theorem zs_278 {a v : Int32} (h3 : zB3 (zr m)) (hp : 0 ≤ (m.1 63 1).toInt ∧ (m.1 63 1).toInt ≤ 6) (hh : 0 ≤ (m.1 63 10).toInt ∧ (m.1 63 10).toInt ≤ 100) (hm : 0 ≤ (m.1 63 11).toInt ∧ (m.1 63 11).toInt ≤ 2000) (hv : 0 ≤ v.toInt ∧ v.toInt ≤ 100) {Q : zf_Me → Prop} (hq : ∀ m', zr m' = zU (zrestO (zU (zr m) 5 11 ((m.1 63 11).toInt + (if 3 < v.toInt then v.toInt else 3))) a.toInt (m.1 63 1).toInt.toNat) 5 10 ((m.1 63 10).toInt + 1) → zgc m m' → Q m') : wq_169_278 a v m Q := by
  have e3 : (3 : Int32).toInt = 3 := rfl
  have go : ∀ (mj : zf_Me) (x : Int32), mj = zf_u m 63 11 x → x.toInt = (m.1 63 11).toInt + (if 3 < v.toInt then v.toInt else 3) → ∃ n300, wq_169_300 a Q n300 0 mj := by
    intro mj x qj hx
    have zj : zr mj = zU (zr m) 5 11 ((m.1 63 11).toInt + (if 3 < v.toInt then v.toInt else 3)) := by rw [qj, zr_w11, hx]
    have c1 : mj.1 63 1 = m.1 63 1 := by rw [qj, zf_u4 (by decide)]
    have c10 : mj.1 63 10 = m.1 63 10 := by rw [qj, zf_u4 (by decide)]
    have fj : zgc m mj := by rw [qj]; exact zgr_u zgr_refl (by omega)
    refine zs_169l (by rw [zj]; exact zB3_u5 h3) (by rw [c1]; exact hp) (by rw [c10]; exact hh) (fun m' z' f' => hq m' ?_ (zgr_trans fj f'))
    rw [z', zj, c1, c10]
  refine ⟨fun g m5 q5 => go m5 _ q5 ?_, fun g m13 q13 => go m13 _ q13 ?_⟩
  · rw [fb_addI (by omega) (by omega)]
    split <;> omega
  · rw [fb_addI (by omega) (by omega), e3, if_neg (by omega)]
/-- walking, from where the legs are set -/
theorem zs_258 {a v : Int32} (ha : 6 ≤ a.toInt) (h2 : zB2 (zr m)) (h3 : zB3 (zr m)) (hb : 0 ≤ (m.1 63 1).toInt ∧ (m.1 63 1).toInt ≤ 6 ∧ 0 ≤ (m.1 63 10).toInt ∧ (m.1 63 10).toInt < 24 ∧ 0 ≤ (m.1 63 11).toInt ∧ (m.1 63 11).toInt ≤ 2000 ∧ 0 ≤ (m.1 63 3).toInt ∧ (m.1 63 3).toInt ≤ 20) (hv : v.toInt = zslope (zr m)) {Q : zf_Me → Prop} (hq : ∀ m', zr m' = zwalkd (zr m) → zgc m m' → Q m') : wq_169_258 a v m Q := by
  have e1 : (1 : Int32).toInt = 1 := rfl
  have e0 : (0 : Int32).toInt = 0 := rfl
  have e9 : (9 : Int32).toInt = 9 := rfl
  have sb := zslope_b h2 (show 0 ≤ zr m 5 10 ∧ zr m 5 10 < 24 from ⟨hb.2.2.1, hb.2.2.2.1⟩)
  intro m1 q1 m3 q3
  have z3 : zr m3 = zU (zU (zr m) 5 8 ((m.1 63 3).toInt - 1)) 5 9 0 := by
    rw [q3, zr_w6, q1, zr_w3, fb_subI (by omega) (by omega), e1, e0]
  have f3 : zgc m m3 := by
    rw [q3, q1]
    exact zgr_u (zgr_u zgr_refl (by omega)) (by omega)
  have c : ∀ k, ¬ k = 3 → ¬ k = 6 → m3.1 63 k = m.1 63 k := fun k k3 k6 => by rw [q3, zf_u4 k6, q1, zf_u4 k3]
  have s9 := fb_addI (x := 9) (y := v) (by omega) (by omega)
  refine zs_278 (by rw [z3]; exact zB3_u5 (zB3_u5 h3)) (by rw [c 1 (by decide) (by decide)]; omega) (by rw [c 10 (by decide) (by decide)]; omega) (by rw [c 11 (by decide) (by decide)]; omega) (by omega) (fun m' z' f' => hq m' ?_ (zgr_trans f3 f'))
  rw [z', z3, c 1 (by decide) (by decide), c 10 (by decide) (by decide), c 11 (by decide) (by decide), if_pos (by omega), s9, hv, e9, zrestO_car (fun k hk => by omega)]
  rfl
theorem zs_169 (hB : zB (zr m)) {a : Int32} (ha : 0 ≤ a.toInt ∧ a.toInt ≤ 9) (hm : zmay (zr m) a.toInt) {Q : zf_Me → Prop} (hq : ∀ m', zr m' = zact (zr m) a.toInt → zgc m m' → Q m') : wp_169 a m Q := by
  have e1 : (1 : Int32).toInt = 1 := rfl
  have e0 : (0 : Int32).toInt = 0 := rfl
  have e2 : (2 : Int32).toInt = 2 := rfl
  have e6 : (6 : Int32).toInt = 6 := rfl
  have e10 : (10 : Int32).toInt = 10 := rfl
  have b := zB_r hB
  have nx : ¬ a.toInt = 9 → (m.1 63 10).toInt < (m.1 63 0).toInt := fun g => by
    rcases hm with z | z | z | z | z
    · exact z.2.1.1
    · exact z.2.1.1
    · exact z.2.1.1
    · omega
    · exact z.2.2.2.2.2.1
  have sl : ¬ a.toInt = 9 → (m.1 65 (m.1 63 10).toInt.toNat).toInt = zslope (zr m) := fun g => by
    have := nx g
    exact (zN_lt (k := (m.1 63 10).toInt.toNat) (by omega)).symm
  refine ⟨fun n9 => ⟨by have := nx n9; omega, fun g6 => ⟨fun n7 => ?_, fun y7 m19 q19 => ?_⟩, fun g6 => ⟨by omega, ?_⟩⟩, fun y9 m31 q31 => ?_⟩
  · -- 6 or 8
    refine ⟨fun n8 => ?_, fun y8 m15 q15 => ?_⟩
    · have y6 : a.toInt = 6 := by omega
      have lg : 1 ≤ (m.1 63 3).toInt := by
        rcases hm with z | z | z | z | z
        · exact z.2.2
        · omega
        · omega
        · omega
        · omega
      refine zs_258 (by omega) hB.2.1 hB.2.2 (by have := nx n9; omega) (sl n9) (fun m' z' f' => hq m' ?_ f')
      rw [z']
      unfold zact
      rw [if_pos y6]
    · have z15 : zr m15 = zU (zr m) 5 4 ((m.1 63 8).toInt - 1) := by
        rw [q15, zr_w8, fb_subI (by omega) (by omega), e1]
      have c : ∀ k, ¬ k = 8 → m15.1 63 k = m.1 63 k := fun k k8 => by rw [q15, zf_u4 k8]
      have s1 := fb_addI (x := m15.1 63 3) (y := 1) (by rw [c 3 (by decide)]; omega) (by rw [c 3 (by decide)]; omega)
      have s2 := fb_addI (x := m15.1 63 4) (y := 2) (by rw [c 4 (by decide)]; omega) (by rw [c 4 (by decide)]; omega)
      rw [c 3 (by decide)] at s1
      rw [c 4 (by decide)] at s2
      have fin : ∀ x : Int32, x.toInt = (if (m.1 63 4).toInt + 2 < (m.1 63 3).toInt + 1 then (m.1 63 4).toInt + 2 else (m.1 63 3).toInt + 1) → wq_169_255 a (m.1 65 (m.1 63 10).toInt.toNat) x m15 Q := by
        intro x hx m17 q17
        have xb : 0 ≤ x.toInt ∧ x.toInt ≤ 20 := by rw [hx]; split <;> omega
        have z17 : zr m17 = zU (zU (zr m) 5 4 ((m.1 63 8).toInt - 1)) 5 8 x.toInt := by rw [q17, zr_w3, z15]
        have f17 : zgc m m17 := by
          rw [q17, q15]
          exact zgr_u (zgr_u zgr_refl (by omega)) (by omega)
        have c17 : ∀ k, ¬ k = 3 → ¬ k = 8 → m17.1 63 k = m.1 63 k := fun k k3 k8 => by rw [q17, zf_u4 k3, c k k8]
        have l17 : m17.1 63 3 = x := by rw [q17, zf_u3]
        have s17 : zslope (zr m17) = zslope (zr m) := by rw [z17]; rfl
        refine zs_258 (by omega) (by rw [z17]; exact zB2_u5 (zB2_u5 hB.2.1)) (by rw [z17]; exact zB3_u5 (zB3_u5 hB.2.2)) (by rw [c17 1 (by decide) (by decide), c17 10 (by decide) (by decide), c17 11 (by decide) (by decide), l17]; have := nx n9; omega) (by rw [s17]; exact sl n9) (fun m' z' f' => hq m' ?_ (zgr_trans f17 f'))
        rw [z', z17, hx]
        unfold zact
        rw [if_neg (c := a.toInt = 6) (by omega), if_neg (c := a.toInt = 7) (by omega), if_pos (c := a.toInt = 8) y8]
        rfl
      rw [c 3 (by decide), c 4 (by decide)]
      exact ⟨fun g => fin _ (by rw [s1, e1, if_neg (by omega)]), fun g => fin _ (by rw [s2, e2, if_pos (by omega)])⟩
  · have z19 : zr m19 = zU (zr m) 5 3 ((m.1 63 7).toInt - 1) := by
      rw [q19, zr_w7, fb_subI (by omega) (by omega), e1]
    have c : ∀ k, ¬ k = 7 → m19.1 63 k = m.1 63 k := fun k k7 => by rw [q19, zf_u4 k7]
    have s1 := fb_addI (x := m19.1 63 3) (y := 2) (by rw [c 3 (by decide)]; omega) (by rw [c 3 (by decide)]; omega)
    have s2 := fb_addI (x := m19.1 63 4) (y := 2) (by rw [c 4 (by decide)]; omega) (by rw [c 4 (by decide)]; omega)
    rw [c 3 (by decide)] at s1
    rw [c 4 (by decide)] at s2
    have fin : ∀ x : Int32, x.toInt = (if (m.1 63 4).toInt + 2 < (m.1 63 3).toInt + 2 then (m.1 63 4).toInt + 2 else (m.1 63 3).toInt + 2) → wq_169_205 a (m.1 65 (m.1 63 10).toInt.toNat) x m19 Q := by
      intro x hx m21 q21
      have xb : 0 ≤ x.toInt ∧ x.toInt ≤ 20 := by rw [hx]; split <;> omega
      have z21 : zr m21 = zU (zU (zr m) 5 3 ((m.1 63 7).toInt - 1)) 5 8 x.toInt := by rw [q21, zr_w3, z19]
      have f21 : zgc m m21 := by
        rw [q21, q19]
        exact zgr_u (zgr_u zgr_refl (by omega)) (by omega)
      have c21 : ∀ k, ¬ k = 3 → ¬ k = 7 → m21.1 63 k = m.1 63 k := fun k k3 k7 => by rw [q21, zf_u4 k3, c k k7]
      have l21 : m21.1 63 3 = x := by rw [q21, zf_u3]
      have s21 : zslope (zr m21) = zslope (zr m) := by rw [z21]; rfl
      refine ⟨fun _ => ?_, fun z => by omega⟩
      refine zs_258 (by omega) (by rw [z21]; exact zB2_u5 (zB2_u5 hB.2.1)) (by rw [z21]; exact zB3_u5 (zB3_u5 hB.2.2)) (by rw [c21 1 (by decide) (by decide), c21 10 (by decide) (by decide), c21 11 (by decide) (by decide), l21]; have := nx n9; omega) (by rw [s21]; exact sl n9) (fun m' z' f' => hq m' ?_ (zgr_trans f21 f'))
      rw [z', z21, hx]
      unfold zact
      rw [if_neg (c := a.toInt = 6) (by omega), if_pos (c := a.toInt = 7) y7]
      rfl
    rw [c 3 (by decide), c 4 (by decide)]
    exact ⟨fun g => fin _ (by rw [s1, e2, if_neg (by omega)]), fun g => fin _ (by rw [s2, e2, if_pos (by omega)])⟩
  · -- carried
    have hc : zcarryOk (zr m) a.toInt := by
      rcases hm with z | z | z | z | z
      · omega
      · omega
      · omega
      · omega
      · exact z.2.2.2.2
    have hp : 0 ≤ a.toInt ∧ a.toInt < (m.1 63 1).toInt := hc.1
    have hh := nx n9
    have hl : zr m 4 a.toInt.toNat + zload (zr m) a.toInt.toNat (zslope (zr m)) ≤ (m.1 63 9).toInt := hc.2.2.2.2
    have b2 := zB_r2 hB (k := (m.1 63 10).toInt.toNat) (by omega)
    have b3 := zB_r3 hB (k := a.toInt.toNat) (by omega)
    have a4 : zr m 4 a.toInt.toNat = (m.1 69 a.toInt.toNat).toInt := zN_lt (by omega)
    have slo := sl n9
    have lb := zload_b (f := zr m) (p := a.toInt.toNat) (v := zslope (zr m)) (by omega) (by omega)
    refine zs_165 hB (by omega) (by omega) (fun x hx => ⟨by omega, fun m25 q25 m27 q27 => ?_⟩)
    rw [slo] at hx
    have z25 : zr m25 = zU (zr m) 4 a.toInt.toNat (zr m 4 a.toInt.toNat + zload (zr m) a.toInt.toNat (zslope (zr m))) := by
      rw [q25, zr_a4 (by omega), fb_addI (by omega) (by omega), hx, a4]
    have c25 : ∀ k, m25.1 63 k = m.1 63 k := fun k => by rw [q25, zf_u1 (by decide)]
    have z27 : zr m27 = zcar1 (zr m) a.toInt.toNat := by
      rw [q27, zr_w6, z25, fb_addI (by rw [c25]; omega) (by rw [c25]; omega), c25, e1]
      rfl
    have f27 : zgc m m27 := by
      rw [q27, q25]
      exact zgr_u (zgr_u zgr_refl (by omega)) (by omega)
    have t136 : ∀ m', zr m' = zcar2 (zcar1 (zr m) a.toInt.toNat) → zgc m m' → wq_169_136 a (m.1 65 (m.1 63 10).toInt.toNat) m' Q := by
      intro m' z' f'
      have c9 : (m'.1 63 6).toInt = (m.1 63 6).toInt + 1 := by
        show zr m' 5 9 = _
        rw [z', zcar2_o (by decide)]
        rfl
      have c11 : (m'.1 63 11).toInt = (m.1 63 11).toInt := by
        show zr m' 5 11 = _
        rw [z', zcar2_o (by decide)]
        rfl
      have c10 : (m'.1 63 10).toInt = (m.1 63 10).toInt := by
        show zr m' 5 10 = _
        rw [z', zcar2_o (by decide)]
        rfl
      have c1 : (m'.1 63 1).toInt = (m.1 63 1).toInt := by
        show zr m' 5 6 = _
        rw [z', zcar2_o (by decide)]
        rfl
      have t153 : ∀ u : Int32, u.toInt = (if (m'.1 63 6).toInt = 1 then 1 else 0) → wq_169_153 a u (6 + (m.1 65 (m.1 63 10).toInt.toNat)) m' Q := by
        intro u hu
        have ub : 0 ≤ u.toInt ∧ u.toInt ≤ 1 := by rw [hu]; split <;> omega
        have s1 := fb_addI (x := 6) (y := m.1 65 (m.1 63 10).toInt.toNat) (by omega) (by omega)
        have s2 := fb_addI (x := 6 + m.1 65 (m.1 63 10).toInt.toNat) (y := u) (by omega) (by omega)
        refine zs_278 (by rw [z']; exact zB3_c2 (zB3_u5 (zB3_u4 hB.2.2 (by omega)))) (by omega) (by omega) (by omega) (by omega) (fun m2 z2 f2 => hq m2 ?_ (zgr_trans f' f2))
        rw [z2, s2, s1, slo, e6, hu, c1, c10]
        have key : zU (zr m') 5 11 ((m'.1 63 11).toInt + (if 3 < 6 + zslope (zr m) + (if (m'.1 63 6).toInt = 1 then 1 else 0) then 6 + zslope (zr m) + (if (m'.1 63 6).toInt = 1 then 1 else 0) else 3)) = zcar3 (zr m') (zslope (zr m)) := rfl
        rw [key, z']
        unfold zact
        rw [if_neg (c := a.toInt = 6) (by omega), if_neg (c := a.toInt = 7) (by omega), if_neg (c := a.toInt = 8) (by omega), if_neg (c := a.toInt = 9) (by omega)]
        unfold zcarry
        rw [show ((a.toInt.toNat : Nat) : Int) = a.toInt by omega]
        rfl
      exact ⟨fun g => t153 0 (by rw [if_neg g]; rfl), fun g => t153 1 (by rw [if_pos g]; rfl)⟩
    have d9 : (m27.1 63 6).toInt = zcar1 (zr m) a.toInt.toNat 5 9 := by
      rw [← z27]
      rfl
    have d9' : zcar1 (zr m) a.toInt.toNat 5 9 = (m.1 63 6).toInt + 1 := rfl
    have d8 : (m27.1 63 3).toInt = zcar1 (zr m) a.toInt.toNat 5 8 := by
      rw [← z27]
      rfl
    have d8' : zcar1 (zr m) a.toInt.toNat 5 8 = (m.1 63 3).toInt := rfl
    have d0 : (m27.1 63 4).toInt = zcar1 (zr m) a.toInt.toNat 5 0 := by
      rw [← z27]
      rfl
    have rm := zf_remG (x := m27.1 63 6) (y := 2) (by omega) (by decide)
    rw [e2] at rm
    refine ⟨fun g => t136 m27 ?_ f27, fun g => ⟨fun g2 => t136 m27 ?_ f27, fun g2 m29 q29 => t136 m29 ?_ ?_⟩⟩
    · rw [z27]
      unfold zcar2
      rw [if_neg (fun z => g (by rw [rm, d9]; exact z.1))]
    · rw [z27]
      unfold zcar2
      rw [if_neg (fun z => by have := z.2; omega)]
    · rw [q29, zr_w3, z27]
      unfold zcar2
      rw [if_pos ⟨by rw [← d9, ← rm]; exact g, by omega⟩, fb_addI (by omega) (by omega), d8, e1]
    · rw [q29]
      exact zgr_u f27 (by omega)
  · -- rest
    have hr : (m.1 63 11).toInt ≤ 900 := by
      rcases hm with z | z | z | z | z
      · omega
      · omega
      · omega
      · exact z.2.1
      · omega
    have z31 : zr m31 = zU (zr m) 5 11 ((m.1 63 11).toInt + 10) := by
      rw [q31, zr_w11, fb_addI (by omega) (by omega), e10]
    have f31 : zgc m m31 := by
      rw [q31]
      exact zgr_u zgr_refl (by omega)
    have c31 : ∀ k, ¬ k = 11 → m31.1 63 k = m.1 63 k := fun k hk => by rw [q31, zf_u4 hk]
    have b31 : zB3 (zr m31) := by
      rw [z31]
      exact zB3_u5 hB.2.2
    have lp : ∀ (n : Nat) (v : Int32) (mj : zf_Me), 0 ≤ v.toInt → v.toInt ≤ (m.1 63 1).toInt → (m.1 63 1).toInt - v.toInt < n → zr mj = zrestA (zr m31) v.toInt.toNat → zgc m mj → wq_169_19 a Q n v mj := by
      intro n
      induction n with
      | zero => intro v mj h0 h1 h2; omega
      | succ n ih =>
        intro v mj h0 h1 h2 hz hf
        have s := fb_addI (x := v) (y := 1) (by omega) (by omega)
        have c1 : (mj.1 63 1).toInt = (m.1 63 1).toInt := by
          show zr mj 5 6 = _
          rw [hz, zrestA_n (by decide), z31]
          rfl
        refine ⟨fun g m33 q33 => ?_, fun g => ?_⟩
        · have z33 : zr m33 = zrestA (zU (zU (zr m) 5 11 ((m.1 63 11).toInt + 10)) 5 9 0) (m.1 63 1).toInt.toNat := by
            rw [q33, zr_w6, hz, z31, zrestA_u5, show v.toInt = (m.1 63 1).toInt by omega, e0]
          have f33 : zgc m m33 := by rw [q33]; exact zgr_u hf (by omega)
          have l3 : (m33.1 63 3).toInt = (m.1 63 3).toInt := by
            show zr m33 5 8 = _
            rw [z33, zrestA_n (by decide)]
            rfl
          have l4 : (m33.1 63 4).toInt = (m.1 63 4).toInt := by
            show zr m33 5 0 = _
            rw [z33, zrestA_n (by decide)]
            rfl
          have st : zact (zr m) a.toInt = zU (zrestA (zU (zU (zr m) 5 11 ((m.1 63 11).toInt + 10)) 5 9 0) (m.1 63 1).toInt.toNat) 5 8 (if (m.1 63 3).toInt < (m.1 63 4).toInt then (m.1 63 4).toInt else (m.1 63 3).toInt) := by
            unfold zact
            rw [if_neg (c := a.toInt = 6) (by omega), if_neg (c := a.toInt = 7) (by omega), if_neg (c := a.toInt = 8) (by omega), if_pos (c := a.toInt = 9) y9, zrestA_u5]
            rfl
          refine ⟨fun g2 => hq m33 ?_ f33, fun g2 m35 q35 => hq m35 ?_ (by rw [q35]; exact zgr_u f33 (by omega))⟩
          · rw [st, if_neg (by omega), ← z33, ← l3]
            exact zU_id.symm
          · rw [st, if_pos (by omega), q35, zr_w3, z33, l4]
        · have b := b31 v.toInt.toNat (by omega)
          have a4 : zr mj 4 v.toInt.toNat = zr m31 4 v.toInt.toNat := by
            rw [hz]
            exact if_neg (fun z => by omega)
          have a4' : zr mj 4 v.toInt.toNat = (mj.1 69 v.toInt.toNat).toInt := zN_lt (by omega)
          refine zs_168 (by omega) (by omega) (by decide) (fun m' z' f' => ih _ m' (by omega) (by omega) (by omega) ?_ (zgr_trans hf f'))
          rw [z', a4, hz, show (v + 1).toInt.toNat = v.toInt.toNat + 1 by omega, zrestA_go, e6]
    exact ⟨7, lp 7 0 m31 (by omega) (by omega) (by omega) zrestA_0.symm f31⟩
end
end
section
/-! part 63: the reference keeps its walk in a row, takes it out of it: laid by wip/flat/w63.py -/
def zF (f : zS) (i : Nat) : Int := if i < 24 then f 0 i else if i < 48 then f 1 (i - 24) else if i < 54 then f 2 (i - 48) else if i < 60 then f 3 (i - 54) else if i < 66 then f 4 (i - 60) else f 5 (i - 66)
def zL (g : Nat → Int) : zS := fun c k => match c with
  | 0 => if k < 24 then g k else 0
  | 1 => if k < 24 then g (24 + k) else 0
  | 2 => if k < 6 then g (48 + k) else 0
  | 3 => if k < 6 then g (54 + k) else 0
  | 4 => if k < 6 then g (60 + k) else 0
  | 5 => if k < 13 then g (66 + k) else 0
  | _ => 0
/-- what lies in a row -/
def zA (a o : Nat) (m : zf_Me) : zS := zL (fun i => (m.1 a (o + i)).toInt)
theorem zL_ext {g h : Nat → Int} (e : ∀ i, i < 79 → g i = h i) : zL g = zL h := by
  funext c k
  unfold zL
  split
  · split
    · exact e _ (by omega)
    · rfl
  · split
    · exact e _ (by omega)
    · rfl
  · split
    · exact e _ (by omega)
    · rfl
  · split
    · exact e _ (by omega)
    · rfl
  · split
    · exact e _ (by omega)
    · rfl
  · split
    · exact e _ (by omega)
    · rfl
  · rfl
theorem zF_0 {f : zS} {k : Nat} (h : k < 24) : zF f k = f 0 k := if_pos h
theorem zF_1 {f : zS} {k : Nat} (h : k < 24) : zF f (24 + k) = f 1 k := by
  unfold zF
  rw [if_neg (by omega), if_pos (by omega), Nat.add_sub_cancel_left]
theorem zF_2 {f : zS} {k : Nat} (h : k < 6) : zF f (48 + k) = f 2 k := by
  unfold zF
  rw [if_neg (by omega), if_neg (by omega), if_pos (by omega), Nat.add_sub_cancel_left]
theorem zF_3 {f : zS} {k : Nat} (h : k < 6) : zF f (54 + k) = f 3 k := by
  unfold zF
  rw [if_neg (by omega), if_neg (by omega), if_neg (by omega), if_pos (by omega), Nat.add_sub_cancel_left]
theorem zF_4 {f : zS} {k : Nat} (h : k < 6) : zF f (60 + k) = f 4 k := by
  unfold zF
  rw [if_neg (by omega), if_neg (by omega), if_neg (by omega), if_neg (by omega), if_pos (by omega), Nat.add_sub_cancel_left]
theorem zF_5 {f : zS} {k : Nat} : zF f (66 + k) = f 5 k := by
  unfold zF
  rw [if_neg (by omega), if_neg (by omega), if_neg (by omega), if_neg (by omega), if_neg (by omega), Nat.add_sub_cancel_left]
theorem zr_L {m : zf_Me} : zL (zF (zr m)) = zr m := by
  funext c k
  match c with
  | 0 =>
    show (if k < 24 then zF (zr m) k else 0) = zN 24 (m.1 65) k
    unfold zN
    by_cases h : k < 24
    · rw [if_pos h, if_pos h, zF_0 h]
      exact zN_lt h
    · rw [if_neg h, if_neg h]
  | 1 =>
    show (if k < 24 then zF (zr m) (24 + k) else 0) = zN 24 (m.1 66) k
    unfold zN
    by_cases h : k < 24
    · rw [if_pos h, if_pos h, zF_1 h]
      exact zN_lt h
    · rw [if_neg h, if_neg h]
  | 2 =>
    show (if k < 6 then zF (zr m) (48 + k) else 0) = zN 6 (m.1 67) k
    unfold zN
    by_cases h : k < 6
    · rw [if_pos h, if_pos h, zF_2 h]
      exact zN_lt h
    · rw [if_neg h, if_neg h]
  | 3 =>
    show (if k < 6 then zF (zr m) (54 + k) else 0) = zN 6 (m.1 68) k
    unfold zN
    by_cases h : k < 6
    · rw [if_pos h, if_pos h, zF_3 h]
      exact zN_lt h
    · rw [if_neg h, if_neg h]
  | 4 =>
    show (if k < 6 then zF (zr m) (60 + k) else 0) = zN 6 (m.1 69) k
    unfold zN
    by_cases h : k < 6
    · rw [if_pos h, if_pos h, zF_4 h]
      exact zN_lt h
    · rw [if_neg h, if_neg h]
  | 5 =>
    show (if k < 13 then zF (zr m) (66 + k) else 0) = zr m 5 k
    rw [zF_5]
    by_cases h : k < 13
    · rw [if_pos h]
    · rw [if_neg h]
      obtain ⟨j, rfl⟩ : ∃ j, k = j + 13 := ⟨k - 13, by omega⟩
      rfl
  | n + 6 => rfl
theorem zF_u {f : zS} {j i : Nat} {x : Int} : zF (zU f 5 j x) i = if i = 66 + j then x else zF f i := by
  by_cases e : i = 66 + j
  · rw [if_pos e, e, zF_5, zU_s]
  · rw [if_neg e]
    unfold zF
    split
    · exact zU_o (by omega)
    · split
      · exact zU_o (by omega)
      · split
        · exact zU_o (by omega)
        · split
          · exact zU_o (by omega)
          · split
            · exact zU_o (by omega)
            · exact zU_o (by omega)
/-- a row's element becomes another: rows of the walk -/
theorem zF_a {f : zS} {c b n j i : Nat} {x : Int} (hc : (c = 0 ∧ b = 0 ∧ n = 24) ∨ (c = 1 ∧ b = 24 ∧ n = 24) ∨ (c = 2 ∧ b = 48 ∧ n = 6) ∨ (c = 3 ∧ b = 54 ∧ n = 6) ∨ (c = 4 ∧ b = 60 ∧ n = 6)) (hj : j < n) : zF (zU f c j x) i = if i = b + j then x else zF f i := by
  by_cases e : i = b + j
  · rw [if_pos e, e]
    rcases hc with ⟨rfl, rfl, rfl⟩ | ⟨rfl, rfl, rfl⟩ | ⟨rfl, rfl, rfl⟩ | ⟨rfl, rfl, rfl⟩ | ⟨rfl, rfl, rfl⟩
    · rw [Nat.zero_add, zF_0 hj, zU_s]
    · rw [zF_1 hj, zU_s]
    · rw [zF_2 hj, zU_s]
    · rw [zF_3 hj, zU_s]
    · rw [zF_4 hj, zU_s]
  · rw [if_neg e]
    rcases hc with ⟨rfl, rfl, rfl⟩ | ⟨rfl, rfl, rfl⟩ | ⟨rfl, rfl, rfl⟩ | ⟨rfl, rfl, rfl⟩ | ⟨rfl, rfl, rfl⟩
    · unfold zF
      split
      · exact zU_o (by omega)
      · split
        · exact zU_o (by omega)
        · split
          · exact zU_o (by omega)
          · split
            · exact zU_o (by omega)
            · split
              · exact zU_o (by omega)
              · exact zU_o (by omega)
    · unfold zF
      split
      · exact zU_o (by omega)
      · split
        · exact zU_o (by omega)
        · split
          · exact zU_o (by omega)
          · split
            · exact zU_o (by omega)
            · split
              · exact zU_o (by omega)
              · exact zU_o (by omega)
    · unfold zF
      split
      · exact zU_o (by omega)
      · split
        · exact zU_o (by omega)
        · split
          · exact zU_o (by omega)
          · split
            · exact zU_o (by omega)
            · split
              · exact zU_o (by omega)
              · exact zU_o (by omega)
    · unfold zF
      split
      · exact zU_o (by omega)
      · split
        · exact zU_o (by omega)
        · split
          · exact zU_o (by omega)
          · split
            · exact zU_o (by omega)
            · split
              · exact zU_o (by omega)
              · exact zU_o (by omega)
    · unfold zF
      split
      · exact zU_o (by omega)
      · split
        · exact zU_o (by omega)
        · split
          · exact zU_o (by omega)
          · split
            · exact zU_o (by omega)
            · split
              · exact zU_o (by omega)
              · exact zU_o (by omega)
section
variable {m : zf_Me}
/-- a row into another, element by element -/
theorem zs_160s {a1 n1 a3 n3 : Nat} {n f b : Int32} (hb : b.toInt = 0) (hn : 0 ≤ n.toInt ∧ n.toInt ≤ n1 ∧ n.toInt ≤ 100) (hf : 0 ≤ f.toInt ∧ f.toInt + n.toInt ≤ n3 ∧ f.toInt ≤ 1000) (Inv : Nat → zf_Me → Prop) (h0 : Inv 0 m) (st : ∀ (j : Nat) (mj : zf_Me), (j : Int) < n.toInt → Inv j mj → Inv (j + 1) (zf_u mj a3 (f.toInt.toNat + j) (mj.1 a1 j))) {Q : Int32 → zf_Me → Prop} (hq : ∀ x m', x.toInt = f.toInt + n.toInt → Inv n.toInt.toNat m' → Q x m') : wp_160 a1 n1 a3 n3 n f b m Q := by
  have e1 : (1 : Int32).toInt = 1 := rfl
  have lp : ∀ (k : Nat) (v : Int32) (mj : zf_Me), 0 ≤ v.toInt → v.toInt ≤ n.toInt → n.toInt - v.toInt < k → Inv v.toInt.toNat mj → wq_160_3 a1 n1 a3 n3 n f b Q k v mj := by
    intro k
    induction k with
    | zero => intro v mj k0 k1 k2; omega
    | succ k ih =>
      intro v mj k0 k1 k2 hi
      refine ⟨fun g => hq _ mj (fb_addI (by omega) (by omega)) (by rw [show n.toInt = v.toInt by omega]; exact hi), fun g => ?_⟩
      have s := fb_addI (x := v) (y := 1) (by omega) (by omega)
      have s2 := fb_addI (x := f) (y := v) (by omega) (by omega)
      refine ⟨fun _ => ⟨by omega, by omega, fun m1 q1 => ih _ m1 (by omega) (by omega) (by omega) ?_⟩, fun z => absurd hb z⟩
      have t := st v.toInt.toNat mj (by omega) hi
      rw [q1, show (f + v).toInt.toNat = f.toInt.toNat + v.toInt.toNat by omega, show (v + 1).toInt.toNat = v.toInt.toNat + 1 by omega]
      exact t
  exact ⟨102, lp 102 0 m (by decide) (by exact hn.1) (by show n.toInt - 0 < _; omega) h0⟩
theorem zs_160b {a1 n1 a3 n3 : Nat} {n f b : Int32} (hb : ¬ b.toInt = 0) (hn : 0 ≤ n.toInt ∧ n.toInt ≤ n1 ∧ n.toInt ≤ 100) (hf : 0 ≤ f.toInt ∧ f.toInt + n.toInt ≤ n3 ∧ f.toInt ≤ 1000) (Inv : Nat → zf_Me → Prop) (h0 : Inv 0 m) (st : ∀ (j : Nat) (mj : zf_Me), (j : Int) < n.toInt → Inv j mj → Inv (j + 1) (zf_u mj a1 j (mj.1 a3 (f.toInt.toNat + j)))) {Q : Int32 → zf_Me → Prop} (hq : ∀ x m', x.toInt = f.toInt + n.toInt → Inv n.toInt.toNat m' → Q x m') : wp_160 a1 n1 a3 n3 n f b m Q := by
  have e1 : (1 : Int32).toInt = 1 := rfl
  have lp : ∀ (k : Nat) (v : Int32) (mj : zf_Me), 0 ≤ v.toInt → v.toInt ≤ n.toInt → n.toInt - v.toInt < k → Inv v.toInt.toNat mj → wq_160_3 a1 n1 a3 n3 n f b Q k v mj := by
    intro k
    induction k with
    | zero => intro v mj k0 k1 k2; omega
    | succ k ih =>
      intro v mj k0 k1 k2 hi
      refine ⟨fun g => hq _ mj (fb_addI (by omega) (by omega)) (by rw [show n.toInt = v.toInt by omega]; exact hi), fun g => ?_⟩
      have s := fb_addI (x := v) (y := 1) (by omega) (by omega)
      have s2 := fb_addI (x := f) (y := v) (by omega) (by omega)
      refine ⟨fun z => absurd z hb, fun _ => ⟨by omega, by omega, fun m1 q1 => ih _ m1 (by omega) (by omega) (by omega) ?_⟩⟩
      have t := st v.toInt.toNat mj (by omega) hi
      rw [q1, show (f + v).toInt.toNat = f.toInt.toNat + v.toInt.toNat by omega, show (v + 1).toInt.toNat = v.toInt.toNat + 1 by omega]
      exact t
  exact ⟨102, lp 102 0 m (by decide) (by exact hn.1) (by show n.toInt - 0 < _; omega) h0⟩
abbrev zgA (a o : Nat) (m m' : zf_Me) : Prop := zgr' (fun b k => b = a ∧ o ≤ k ∧ k < o + 79) m m'
/-- so much of the walk lies in the row -/
def zIs (a o : Nat) (m : zf_Me) (p : Nat) (mj : zf_Me) : Prop := (∀ i, i < p → (mj.1 a (o + i)).toInt = zF (zr m) i) ∧ zgA a o m mj ∧ zr mj = zr m
theorem zIs_st {a o p : Nat} {mj : zf_Me} {x : Int32} (ha : ¬ a = 63 ∧ (a < 65 ∨ 69 < a)) (hp : p < 79) (h : zIs a o m p mj) (hx : x.toInt = zF (zr m) p) : zIs a o m (p + 1) (zf_u mj a (o + p) x) := by
  refine ⟨fun i hi => ?_, zgr_u h.2.1 (by omega), ?_⟩
  · by_cases e : i = p
    · rw [e, zf_u3, hx]
    · rw [zf_u4 (by omega)]
      exact h.1 i (by omega)
  · rw [← h.2.2]
    exact zr_fr (fun k _ => by rw [zf_u1 (by omega)]) (fun b _ _ => zf_u1 (by omega))
theorem zs_inn {x k : Int32} {n j : Nat} (hk : k.toInt = j) (h : 0 ≤ x.toInt ∧ x.toInt + 7 < n ∧ x.toInt ≤ 500) (hj : j ≤ 7) : 0 ≤ (x + k).toInt ∧ (x + k).toInt < n := by
  have := fb_addI (x := x) (y := k) (by omega) (by omega)
  omega
theorem zs_inq {x k : Int32} {p j : Nat} (hk : k.toInt = j) (h : x.toInt = (p : Int) + 71) (hp : x.toInt ≤ 500) (hj : j ≤ 7) : (x + k).toInt.toNat = p + (71 + j) := by
  have := fb_addI (x := x) (y := k) (by omega) (by omega)
  omega
theorem zs_161s {a n : Nat} {o b : Int32} (ha : ¬ a = 63 ∧ (a < 65 ∨ 69 < a)) (hb : b.toInt = 0) (ho : 0 ≤ o.toInt ∧ o.toInt + 79 ≤ n ∧ o.toInt ≤ 400) {Q : zf_Me → Prop} (hq : ∀ m', zA a o.toInt.toNat m' = zr m → zgA a o.toInt.toNat m m' → zr m' = zr m → Q m') : wp_161 a n o b m Q := by
  have e1 : (1 : Int32).toInt = 1 := rfl
  have e2 : (2 : Int32).toInt = 2 := rfl
  have e3 : (3 : Int32).toInt = 3 := rfl
  have e4 : (4 : Int32).toInt = 4 := rfl
  have e5 : (5 : Int32).toInt = 5 := rfl
  have e6 : (6 : Int32).toInt = 6 := rfl
  have e7 : (7 : Int32).toInt = 7 := rfl
  have e24 : (24 : Int32).toInt = 24 := rfl
  obtain ⟨p, hp⟩ : ∃ p, p = o.toInt.toNat := ⟨_, rfl⟩
  have s0 : zIs a p m 0 m := ⟨fun i hi => by omega, zgr_refl, rfl⟩
  refine zs_160s hb (by omega) (by omega) (fun j mj => zIs a p m (0 + j) mj) s0 (fun j mj hj hi => ?_) (fun x0 m1 hx0 s1 => ?_)
  · rw [show o.toInt.toNat + j = p + (0 + j) by omega, show 0 + (j + 1) = (0 + j) + 1 by omega]
    refine zIs_st ha (by omega) hi ?_
    rw [Nat.zero_add, zF_0 (by omega), ← hi.2.2]
    exact (zN_lt (by omega)).symm
  replace s1 : zIs a p m 24 m1 := s1
  refine zs_160s hb (by omega) (by omega) (fun j mj => zIs a p m (24 + j) mj) s1 (fun j mj hj hi => ?_) (fun x1 m2 hx1 s2 => ?_)
  · rw [show x0.toInt.toNat + j = p + (24 + j) by omega, show 24 + (j + 1) = (24 + j) + 1 by omega]
    refine zIs_st ha (by omega) hi ?_
    rw [zF_1 (by omega), ← hi.2.2]
    exact (zN_lt (by omega)).symm
  replace s2 : zIs a p m 48 m2 := s2
  refine zs_160s hb (by omega) (by omega) (fun j mj => zIs a p m (48 + j) mj) s2 (fun j mj hj hi => ?_) (fun x2 m3 hx2 s3 => ?_)
  · rw [show x1.toInt.toNat + j = p + (48 + j) by omega, show 48 + (j + 1) = (48 + j) + 1 by omega]
    refine zIs_st ha (by omega) hi ?_
    rw [zF_2 (by omega), ← hi.2.2]
    exact (zN_lt (by omega)).symm
  replace s3 : zIs a p m 54 m3 := s3
  refine zs_160s hb (by omega) (by omega) (fun j mj => zIs a p m (54 + j) mj) s3 (fun j mj hj hi => ?_) (fun x3 m4 hx3 s4 => ?_)
  · rw [show x2.toInt.toNat + j = p + (54 + j) by omega, show 54 + (j + 1) = (54 + j) + 1 by omega]
    refine zIs_st ha (by omega) hi ?_
    rw [zF_3 (by omega), ← hi.2.2]
    exact (zN_lt (by omega)).symm
  replace s4 : zIs a p m 60 m4 := s4
  refine zs_160s hb (by omega) (by omega) (fun j mj => zIs a p m (60 + j) mj) s4 (fun j mj hj hi => ?_) (fun x4 m5 hx4 s5 => ?_)
  · rw [show x3.toInt.toNat + j = p + (60 + j) by omega, show 60 + (j + 1) = (60 + j) + 1 by omega]
    refine zIs_st ha (by omega) hi ?_
    rw [zF_4 (by omega), ← hi.2.2]
    exact (zN_lt (by omega)).symm
  replace s5 : zIs a p m 66 m5 := s5
  have lp : ∀ (k : Nat) (v : Int32) (mj : zf_Me), 0 ≤ v.toInt → v.toInt ≤ 5 → 5 - v.toInt < k → zIs a p m (66 + v.toInt.toNat) mj → wq_161_82 a n o b Q k x4 v mj := by
    intro k
    induction k with
    | zero => intro v mj k0 k1 k2; omega
    | succ k ih =>
      intro v mj k0 k1 k2 hi
      have sv := fb_addI (x := v) (y := 1) (by omega) (by omega)
      have sx := fb_addI (x := x4) (y := v) (by omega) (by omega)
      have s5 := fb_addI (x := x4) (y := 5) (by omega) (by omega)
      refine ⟨fun g => ⟨fun _ => ?_, fun z => absurd hb z⟩, fun g => ⟨fun _ => zs_147 (by omega) (fun x hx => ⟨by omega, fun m45 q45 => ih _ m45 (by omega) (by omega) (by omega) ?_⟩), fun z => absurd hb z⟩⟩
      · rw [show v.toInt = 5 by omega] at hi
        replace hi : zIs a p m 71 mj := hi
        have b7 : 0 ≤ (x4 + 5).toInt ∧ (x4 + 5).toInt + 7 < n ∧ (x4 + 5).toInt ≤ 500 := by
          clear ha
          omega
        have f7 : (x4 + 5).toInt = (p : Int) + 71 := by
          clear ha b7
          omega
        refine ⟨⟨b7.1, by have := b7.2.1; omega⟩, fun m11 q11 => ⟨zs_inn e1 b7 (by decide), fun m13 q13 => ⟨zs_inn e2 b7 (by decide), fun m15 q15 => ⟨zs_inn e3 b7 (by decide), fun m17 q17 => ⟨zs_inn e4 b7 (by decide), fun m19 q19 => ⟨zs_inn e5 b7 (by decide), fun m21 q21 => ⟨zs_inn e6 b7 (by decide), fun m23 q23 => ⟨zs_inn e7 b7 (by decide), fun m25 q25 => ?_⟩⟩⟩⟩⟩⟩⟩⟩
        have i0 : zIs a p m 72 m11 := by
          rw [q11, show (x4 + 5).toInt.toNat = p + 71 by have := f7; omega]
          refine zIs_st ha (by decide) hi ?_
          show _ = zF (zr m) (66 + 5)
          rw [zF_5, ← hi.2.2]
          rfl
        have i1 : zIs a p m 73 m13 := by
          rw [q13, show (x4 + 5 + 1).toInt.toNat = p + 72 from zs_inq e1 f7 b7.2.2 (by decide)]
          refine zIs_st ha (by decide) i0 ?_
          show _ = zF (zr m) (66 + 6)
          rw [zF_5, ← i0.2.2]
          rfl
        have i2 : zIs a p m 74 m15 := by
          rw [q15, show (x4 + 5 + 2).toInt.toNat = p + 73 from zs_inq e2 f7 b7.2.2 (by decide)]
          refine zIs_st ha (by decide) i1 ?_
          show _ = zF (zr m) (66 + 7)
          rw [zF_5, ← i1.2.2]
          rfl
        have i3 : zIs a p m 75 m17 := by
          rw [q17, show (x4 + 5 + 3).toInt.toNat = p + 74 from zs_inq e3 f7 b7.2.2 (by decide)]
          refine zIs_st ha (by decide) i2 ?_
          show _ = zF (zr m) (66 + 8)
          rw [zF_5, ← i2.2.2]
          rfl
        have i4 : zIs a p m 76 m19 := by
          rw [q19, show (x4 + 5 + 4).toInt.toNat = p + 75 from zs_inq e4 f7 b7.2.2 (by decide)]
          refine zIs_st ha (by decide) i3 ?_
          show _ = zF (zr m) (66 + 9)
          rw [zF_5, ← i3.2.2]
          rfl
        have i5 : zIs a p m 77 m21 := by
          rw [q21, show (x4 + 5 + 5).toInt.toNat = p + 76 from zs_inq e5 f7 b7.2.2 (by decide)]
          refine zIs_st ha (by decide) i4 ?_
          show _ = zF (zr m) (66 + 10)
          rw [zF_5, ← i4.2.2]
          rfl
        have i6 : zIs a p m 78 m23 := by
          rw [q23, show (x4 + 5 + 6).toInt.toNat = p + 77 from zs_inq e6 f7 b7.2.2 (by decide)]
          refine zIs_st ha (by decide) i5 ?_
          show _ = zF (zr m) (66 + 11)
          rw [zF_5, ← i5.2.2]
          rfl
        have i7 : zIs a p m 79 m25 := by
          rw [q25, show (x4 + 5 + 7).toInt.toNat = p + 78 from zs_inq e7 f7 b7.2.2 (by decide)]
          refine zIs_st ha (by decide) i6 ?_
          show _ = zF (zr m) (66 + 12)
          rw [zF_5, ← i6.2.2]
          rfl
        refine hq m25 ?_ (by rw [← hp]; exact i7.2.1) i7.2.2
        rw [← hp, ← zr_L (m := m)]
        exact zL_ext (fun i hi => i7.1 i hi)
      · rw [q45, show (x4 + v).toInt.toNat = p + (66 + v.toInt.toNat) by omega, show 66 + (v + 1).toInt.toNat = (66 + v.toInt.toNat) + 1 by omega]
        refine zIs_st ha (by omega) hi ?_
        rw [zF_5, hx, hi.2.2]
  exact ⟨7, lp 7 0 m5 (by decide) (by decide) (by decide) s5⟩
/-- so much of the walk is the row's -/
def zIb (a o : Nat) (m : zf_Me) (p : Nat) (mj : zf_Me) : Prop := (∀ i, i < p → zF (zr mj) i = (m.1 a (o + i)).toInt) ∧ zgc m mj
theorem zIb_row {a o p k : Nat} {mj : zf_Me} (ha : ¬ a = 63 ∧ (a < 65 ∨ 69 < a)) (h : zIb a o m p mj) : mj.1 a k = m.1 a k := h.2.1 a k (by omega)
theorem zIb_u {a o p fld : Nat} {mj : zf_Me} {x : Int32} (h : zIb a o m (66 + p) mj) (hz : zr (zf_u mj 63 fld x) = zU (zr mj) 5 p x.toInt) (hf : fld < 13) (hx : x = m.1 a (o + (66 + p))) : zIb a o m (66 + (p + 1)) (zf_u mj 63 fld x) := by
  refine ⟨fun i hi => ?_, zgr_u h.2 (Or.inl ⟨rfl, hf⟩)⟩
  rw [hz, zF_u]
  by_cases e : i = 66 + p
  · rw [if_pos e, hx, e]
  · rw [if_neg e]
    exact h.1 i (by omega)
theorem zs_161b {a n : Nat} {o b : Int32} (ha : ¬ a = 63 ∧ (a < 65 ∨ 69 < a)) (hb : ¬ b.toInt = 0) (ho : 0 ≤ o.toInt ∧ o.toInt + 79 ≤ n ∧ o.toInt ≤ 400) {Q : zf_Me → Prop} (hq : ∀ m', zr m' = zA a o.toInt.toNat m → zgc m m' → Q m') : wp_161 a n o b m Q := by
  have e1 : (1 : Int32).toInt = 1 := rfl
  have e2 : (2 : Int32).toInt = 2 := rfl
  have e3 : (3 : Int32).toInt = 3 := rfl
  have e4 : (4 : Int32).toInt = 4 := rfl
  have e5 : (5 : Int32).toInt = 5 := rfl
  have e6 : (6 : Int32).toInt = 6 := rfl
  have e7 : (7 : Int32).toInt = 7 := rfl
  have e24 : (24 : Int32).toInt = 24 := rfl
  obtain ⟨p, hp⟩ : ∃ p, p = o.toInt.toNat := ⟨_, rfl⟩
  have s0 : zIb a p m 0 m := ⟨fun i hi => by omega, zgr_refl⟩
  refine zs_160b hb (by omega) (by omega) (fun j mj => zIb a p m (0 + j) mj) s0 (fun j mj hj hi => ?_) (fun x0 m1 hx0 s1 => ?_)
  · refine ⟨fun i hi2 => ?_, zgr_u hi.2 (by omega)⟩
    rw [zr_a0 (by omega), zF_a (b := 0) (n := 24) (by omega) (by omega), zIb_row ha hi, show o.toInt.toNat + j = p + (0 + j) by omega]
    by_cases e : i = 0 + j
    · rw [if_pos e, e]
    · rw [if_neg e]
      exact hi.1 i (by omega)
  replace s1 : zIb a p m 24 m1 := s1
  refine zs_160b hb (by omega) (by omega) (fun j mj => zIb a p m (24 + j) mj) s1 (fun j mj hj hi => ?_) (fun x1 m2 hx1 s2 => ?_)
  · refine ⟨fun i hi2 => ?_, zgr_u hi.2 (by omega)⟩
    rw [zr_a1 (by omega), zF_a (b := 24) (n := 24) (by omega) (by omega), zIb_row ha hi, show x0.toInt.toNat + j = p + (24 + j) by omega]
    by_cases e : i = 24 + j
    · rw [if_pos e, e]
    · rw [if_neg e]
      exact hi.1 i (by omega)
  replace s2 : zIb a p m 48 m2 := s2
  refine zs_160b hb (by omega) (by omega) (fun j mj => zIb a p m (48 + j) mj) s2 (fun j mj hj hi => ?_) (fun x2 m3 hx2 s3 => ?_)
  · refine ⟨fun i hi2 => ?_, zgr_u hi.2 (by omega)⟩
    rw [zr_a2 (by omega), zF_a (b := 48) (n := 6) (by omega) (by omega), zIb_row ha hi, show x1.toInt.toNat + j = p + (48 + j) by omega]
    by_cases e : i = 48 + j
    · rw [if_pos e, e]
    · rw [if_neg e]
      exact hi.1 i (by omega)
  replace s3 : zIb a p m 54 m3 := s3
  refine zs_160b hb (by omega) (by omega) (fun j mj => zIb a p m (54 + j) mj) s3 (fun j mj hj hi => ?_) (fun x3 m4 hx3 s4 => ?_)
  · refine ⟨fun i hi2 => ?_, zgr_u hi.2 (by omega)⟩
    rw [zr_a3 (by omega), zF_a (b := 54) (n := 6) (by omega) (by omega), zIb_row ha hi, show x2.toInt.toNat + j = p + (54 + j) by omega]
    by_cases e : i = 54 + j
    · rw [if_pos e, e]
    · rw [if_neg e]
      exact hi.1 i (by omega)
  replace s4 : zIb a p m 60 m4 := s4
  refine zs_160b hb (by omega) (by omega) (fun j mj => zIb a p m (60 + j) mj) s4 (fun j mj hj hi => ?_) (fun x4 m5 hx4 s5 => ?_)
  · refine ⟨fun i hi2 => ?_, zgr_u hi.2 (by omega)⟩
    rw [zr_a4 (by omega), zF_a (b := 60) (n := 6) (by omega) (by omega), zIb_row ha hi, show x3.toInt.toNat + j = p + (60 + j) by omega]
    by_cases e : i = 60 + j
    · rw [if_pos e, e]
    · rw [if_neg e]
      exact hi.1 i (by omega)
  replace s5 : zIb a p m 66 m5 := s5
  have lp : ∀ (k : Nat) (v : Int32) (mj : zf_Me), 0 ≤ v.toInt → v.toInt ≤ 5 → 5 - v.toInt < k → zIb a p m (66 + v.toInt.toNat) mj → wq_161_82 a n o b Q k x4 v mj := by
    intro k
    induction k with
    | zero => intro v mj k0 k1 k2; omega
    | succ k ih =>
      intro v mj k0 k1 k2 hi
      have sv := fb_addI (x := v) (y := 1) (by omega) (by omega)
      have sx := fb_addI (x := x4) (y := v) (by omega) (by omega)
      have s5 := fb_addI (x := x4) (y := 5) (by omega) (by omega)
      refine ⟨fun g => ⟨fun z => absurd z hb, fun _ => ?_⟩, fun g => ⟨fun z => absurd z hb, fun _ => ⟨by omega, zs_148 (by omega) (fun m48 z48 f48 => ih _ m48 (by omega) (by omega) (by omega) ⟨fun i hi2 => ?_, zgr_trans hi.2 f48⟩)⟩⟩⟩
      · rw [show v.toInt = 5 by omega] at hi
        replace hi : zIb a p m (66 + 5) mj := hi
        have b7 : 0 ≤ (x4 + 5).toInt ∧ (x4 + 5).toInt + 7 < n ∧ (x4 + 5).toInt ≤ 500 := by
          clear ha
          omega
        have f7 : (x4 + 5).toInt = (p : Int) + 71 := by
          clear ha b7
          omega
        refine ⟨⟨b7.1, by have := b7.2.1; omega⟩, fun m27 q27 => ⟨zs_inn e1 b7 (by decide), fun m29 q29 => ⟨zs_inn e2 b7 (by decide), fun m31 q31 => ⟨zs_inn e3 b7 (by decide), fun m33 q33 => ⟨zs_inn e4 b7 (by decide), fun m35 q35 => ⟨zs_inn e5 b7 (by decide), fun m37 q37 => ⟨zs_inn e6 b7 (by decide), fun m39 q39 => ⟨zs_inn e7 b7 (by decide), fun m41 q41 => ?_⟩⟩⟩⟩⟩⟩⟩⟩
        have i0 : zIb a p m (66 + (5 + 1)) m27 := by
          rw [q27]
          refine zIb_u hi zr_w0 (by decide) ?_
          rw [zIb_row ha hi, show (x4 + 5).toInt.toNat = p + (66 + 5) by have := f7; omega]
        have i1 : zIb a p m (66 + (6 + 1)) m29 := by
          rw [q29]
          refine zIb_u i0 zr_w1 (by decide) ?_
          rw [zIb_row ha i0, show (x4 + 5 + 1).toInt.toNat = p + (66 + 6) from zs_inq e1 f7 b7.2.2 (by decide)]
        have i2 : zIb a p m (66 + (7 + 1)) m31 := by
          rw [q31]
          refine zIb_u i1 zr_w2 (by decide) ?_
          rw [zIb_row ha i1, show (x4 + 5 + 2).toInt.toNat = p + (66 + 7) from zs_inq e2 f7 b7.2.2 (by decide)]
        have i3 : zIb a p m (66 + (8 + 1)) m33 := by
          rw [q33]
          refine zIb_u i2 zr_w3 (by decide) ?_
          rw [zIb_row ha i2, show (x4 + 5 + 3).toInt.toNat = p + (66 + 8) from zs_inq e3 f7 b7.2.2 (by decide)]
        have i4 : zIb a p m (66 + (9 + 1)) m35 := by
          rw [q35]
          refine zIb_u i3 zr_w6 (by decide) ?_
          rw [zIb_row ha i3, show (x4 + 5 + 4).toInt.toNat = p + (66 + 9) from zs_inq e4 f7 b7.2.2 (by decide)]
        have i5 : zIb a p m (66 + (10 + 1)) m37 := by
          rw [q37]
          refine zIb_u i4 zr_w10 (by decide) ?_
          rw [zIb_row ha i4, show (x4 + 5 + 5).toInt.toNat = p + (66 + 10) from zs_inq e5 f7 b7.2.2 (by decide)]
        have i6 : zIb a p m (66 + (11 + 1)) m39 := by
          rw [q39]
          refine zIb_u i5 zr_w11 (by decide) ?_
          rw [zIb_row ha i5, show (x4 + 5 + 6).toInt.toNat = p + (66 + 11) from zs_inq e6 f7 b7.2.2 (by decide)]
        have i7 : zIb a p m (66 + (12 + 1)) m41 := by
          rw [q41]
          refine zIb_u i6 zr_w12 (by decide) ?_
          rw [zIb_row ha i6, show (x4 + 5 + 7).toInt.toNat = p + (66 + 12) from zs_inq e7 f7 b7.2.2 (by decide)]
        refine hq m41 ?_ i7.2
        rw [← hp, ← zr_L (m := m41)]
        exact zL_ext (fun i hi => i7.1 i hi)
      · rw [z48, zF_u, zIb_row ha hi, show (x4 + v).toInt.toNat = p + (66 + v.toInt.toNat) by omega]
        by_cases e : i = 66 + v.toInt.toNat
        · rw [if_pos e, e]
        · rw [if_neg e]
          exact hi.1 i (by omega)
  exact ⟨7, lp 7 0 m5 (by decide) (by decide) (by decide) s5⟩
end
end
section
/-! part 64: the reference's rules keep to the same functions -/
def zrm (m : zf_Me) : zRS := (zr m, (m.1 63 44).toInt, (m.1 63 46).toInt, (m.1 63 45).toInt)
abbrev zcoR (a k : Nat) : Prop := zcore a k ∨ (a = 63 ∧ 44 ≤ k ∧ k ≤ 46)
abbrev zgR (m m' : zf_Me) : Prop := zgr' zcoR m m'
theorem zgc_R {m m' : zf_Me} (h : zgc m m') : zgR m m' := zgr_mono h (fun _ _ z => Or.inl z)
theorem zrk_44 {m : zf_Me} {k : Nat} {x : Int32} (hk : 13 ≤ k) : zr (zf_u m 63 k x) = zr m := zr_fr (fun j hj => zf_u4 (by omega)) (fun a _ _ => zf_u1 (by omega))
theorem zno {b : Bool} {p : Prop} (h : b = true ↔ p) (e : b = false) : ¬ p := fun z => by rw [h.mpr z] at e; cases e
section
variable {m : zf_Me}
theorem zs_176 (hB : zB (zr m)) {Q : Int32 → zf_Me → Prop} (hq : ∀ x : Int32, x.toInt = zfresh (zr m) (m.1 63 1).toInt.toNat → Q x m) : wp_176 m Q := by
  have e1 : (1 : Int32).toInt = 1 := rfl
  have e0 : (0 : Int32).toInt = 0 := rfl
  have b := zB_r hB
  have lp : ∀ (n : Nat) (v1 v2 : Int32), 0 ≤ v2.toInt → v2.toInt ≤ (m.1 63 1).toInt → (m.1 63 1).toInt - v2.toInt < n → v1.toInt = zfresh (zr m) v2.toInt.toNat → wq_176_4 Q n v1 v2 m := by
    intro n
    induction n with
    | zero => intro v1 v2 h0 h1 h2; omega
    | succ n ih =>
      intro v1 v2 h0 h1 h2 h3
      have s := fb_addI (x := v2) (y := 1) (by omega) (by omega)
      have e2 : (v2 + 1).toInt.toNat = v2.toInt.toNat + 1 := by omega
      have ej : ((v2.toInt.toNat : Nat) : Int) = v2.toInt := by omega
      have go : ∀ x : Int32, v2.toInt < (m.1 63 1).toInt → x.toInt = zfresh (zr m) (v2.toInt.toNat + 1) → wq_176_4 Q n x (v2 + 1) m := fun x hl hx => ih x _ (by omega) (by omega) (by omega) (by rw [e2]; exact hx)
      have st : zfresh (zr m) (v2.toInt.toNat + 1) = if zcarryOk (zr m) v2.toInt ∧ (zfresh (zr m) v2.toInt.toNat = -1 ∨ zr m 4 v2.toInt.toNat < zr m 4 (zfresh (zr m) v2.toInt.toNat).toNat) then v2.toInt else zfresh (zr m) v2.toInt.toNat := by
        show (if zcarryOk (zr m) ((v2.toInt.toNat : Nat) : Int) ∧ _ then ((v2.toInt.toNat : Nat) : Int) else _) = _
        rw [ej]
      refine ⟨fun g => hq v1 (by rw [h3, show v2.toInt = (m.1 63 1).toInt by omega]), fun g => zs_166 hB (fun b1 h1b => ⟨fun e => go v1 g ?_, fun e => ⟨fun g2 => go v2 g ?_, fun g2 => ?_⟩⟩)⟩
      · rw [st, if_neg (fun z => zno h1b e z.1), h3]
      · rw [st, if_pos ⟨h1b.mp e, Or.inl (by rw [← h3, g2])⟩]
      · have ok := (zfresh_ok (zr m) v2.toInt.toNat).resolve_left (fun z => g2 (by rw [h3, z]))
        have hb : 0 ≤ v1.toInt ∧ v1.toInt < (m.1 63 1).toInt := by
          rw [h3]
          exact ok.1
        have a1 : zr m 4 v2.toInt.toNat = (m.1 69 v2.toInt.toNat).toInt := zN_lt (by omega)
        have a2 : zr m 4 v1.toInt.toNat = (m.1 69 v1.toInt.toNat).toInt := zN_lt (by omega)
        refine ⟨⟨by omega, by omega⟩, ⟨by omega, by omega⟩, fun g3 => go v1 g ?_, fun g3 => go v2 g ?_⟩
        · rw [st, if_neg (fun z => ?_), h3]
          rcases z.2 with z | z
          · exact g2 (by rw [h3, z])
          · rw [← h3, a1, a2] at z
            omega
        · have lt : zr m 4 v2.toInt.toNat < zr m 4 (zfresh (zr m) v2.toInt.toNat).toNat := by
            rw [← h3, a1, a2]
            omega
          rw [st, if_pos ⟨h1b.mp e, Or.inr lt⟩]
  exact ⟨7, lp 7 (-1) 0 (by omega) (by omega) (by omega) rfl⟩
theorem zs_177 (hB : zB (zr m)) (ht : 0 ≤ (m.1 63 44).toInt ∧ (m.1 63 44).toInt ≤ 5) {rule : Int32} (hr : 0 ≤ rule.toInt ∧ rule.toInt ≤ 3) {Q : Int32 → zf_Me → Prop} (hq : ∀ (x : Int32) (m' : zf_Me), x.toInt = zchoose (zr m) rule.toInt (m.1 63 44).toInt → zr m' = zr m → (m'.1 63 44).toInt = zturn1 (zr m) rule.toInt (m.1 63 44).toInt → m'.1 63 45 = m.1 63 45 → m'.1 63 46 = m.1 63 46 → zgR m m' → Q x m') : wp_177 rule m Q := by
  have e1 : (1 : Int32).toInt = 1 := rfl
  have e0 : (0 : Int32).toInt = 0 := rfl
  have e6 : (6 : Int32).toInt = 6 := rfl
  have e7 : (7 : Int32).toInt = 7 := rfl
  have e8 : (8 : Int32).toInt = 8 := rfl
  have e9 : (9 : Int32).toInt = 9 := rfl
  have en : (-1 : Int32).toInt = -1 := rfl
  have b := zB_r hB
  -- nobody was chosen
  have t117 : zfirst (zr m) rule.toInt (m.1 63 44).toInt = -1 → zchoose (zr m) rule.toInt (m.1 63 44).toInt = zrest (zr m) (zfirst (zr m) rule.toInt (m.1 63 44).toInt) → (m.1 63 44).toInt = zturn1 (zr m) rule.toInt (m.1 63 44).toInt → wq_177_117 rule m Q := by
    intro hf hc tu
    have c : zchoose (zr m) rule.toInt (m.1 63 44).toInt = if zmay (zr m) 6 then 6 else if zmay (zr m) 9 then 9 else -1 := by
      rw [hc, hf]
      exact if_pos rfl
    refine zs_167 hB (by decide) (fun b1 k1 => ⟨fun e => zs_167 hB (by decide) (fun b2 k2 => ⟨fun e2 => hq (-1) m ?_ rfl tu rfl rfl zgr_refl, fun e2 => hq 9 m ?_ rfl tu rfl rfl zgr_refl⟩), fun e => hq 6 m ?_ rfl tu rfl rfl zgr_refl⟩)
    · rw [c, if_neg (show ¬ zmay (zr m) 6 from zno k1 e), if_neg (show ¬ zmay (zr m) 9 from zno k2 e2), en]
    · rw [c, if_neg (show ¬ zmay (zr m) 6 from zno k1 e), if_pos (show zmay (zr m) 9 from k2.mp e2), e9]
    · rw [c, if_pos (show zmay (zr m) 6 from k1.mp e), e6]
  have tu : ¬ rule.toInt = 0 → (m.1 63 44).toInt = zturn1 (zr m) rule.toInt (m.1 63 44).toInt := fun g => by
    unfold zturn1
    rw [if_neg (fun z => g z.1)]
  -- no walk, biscuit, race came first
  have t101 : (rule.toInt = 0 → zwho (zr m) (m.1 63 44).toInt (m.1 63 1).toInt.toNat 0 = -1) → zchoose (zr m) rule.toInt (m.1 63 44).toInt = zrest (zr m) (zfirst (zr m) rule.toInt (m.1 63 44).toInt) → wq_177_101 rule m Q := by
    intro h0 hc
    refine ⟨fun g => t117 ?_ hc ?_, fun g => zs_176 hB (fun x hx => ⟨fun g2 => t117 ?_ hc (tu (by omega)), fun g2 => hq x m ?_ rfl (tu (by omega)) rfl rfl zgr_refl⟩)⟩
    · unfold zfirst
      rw [if_pos (by omega)]
      exact h0 (by omega)
    · unfold zturn1
      exact (if_neg (fun z => z.2 (h0 z.1))).symm
    · unfold zfirst
      rw [if_neg (by omega)]
      show zfresh (zr m) (m.1 63 1).toInt.toNat = -1
      rw [← hx, g2]
    · have ff : zfirst (zr m) rule.toInt (m.1 63 44).toInt = x.toInt := by
        unfold zfirst
        rw [if_neg (by omega)]
        exact hx.symm
      rw [hc, ff]
      exact (if_neg g2).symm
  have t50 : (rule.toInt = 0 → zwho (zr m) (m.1 63 44).toInt (m.1 63 1).toInt.toNat 0 = -1) → wq_177_50 rule m Q := by
    intro h0
    have t67 : ¬ (2 ≤ rule.toInt ∧ zmay (zr m) 6) → wq_177_67 rule m Q := by
      intro n1
      have t84 : ¬ (rule.toInt = 3 ∧ zmay (zr m) 7) → wq_177_84 rule m Q := by
        intro n2
        refine ⟨fun g => t101 h0 ?_, fun g => zs_167 hB (by decide) (fun b1 k1 => ⟨fun e => t101 h0 ?_, fun e => hq 8 m ?_ rfl (tu (by omega)) rfl rfl zgr_refl⟩)⟩
        · unfold zchoose
          rw [if_neg n1, if_neg n2, if_neg (fun z => g z.1)]
        · unfold zchoose
          rw [if_neg n1, if_neg n2, if_neg (fun z => zno k1 e z.2)]
        · unfold zchoose
          rw [if_neg n1, if_neg n2, if_pos ⟨g, k1.mp e⟩, e8]
      refine ⟨fun g => t84 (fun z => g z.1), fun g => zs_167 hB (by decide) (fun b1 k1 => ⟨fun e => t84 (fun z => zno k1 e z.2), fun e => hq 7 m ?_ rfl (tu (by omega)) rfl rfl zgr_refl⟩)⟩
      unfold zchoose
      rw [if_neg n1, if_pos ⟨g, k1.mp e⟩, e7]
    refine ⟨fun g => t67 (fun z => by omega), fun g => zs_167 hB (by decide) (fun b1 k1 => ⟨fun e => t67 (fun z => zno k1 e z.2), fun e => hq 6 m ?_ rfl (tu (by omega)) rfl rfl zgr_refl⟩)⟩
    unfold zchoose
    rw [if_pos ⟨by omega, k1.mp e⟩, e6]
  refine ⟨fun g => t50 (fun z => absurd z g), fun g => ?_⟩
  have lp : ∀ (n : Nat) (v2 : Int32), 0 ≤ v2.toInt → v2.toInt ≤ (m.1 63 1).toInt → (m.1 63 1).toInt - v2.toInt < n → zwho (zr m) (m.1 63 44).toInt (m.1 63 1).toInt.toNat 0 = zwho (zr m) (m.1 63 44).toInt ((m.1 63 1).toInt - v2.toInt).toNat v2.toInt.toNat → wq_177_6 rule Q n v2 m := by
    intro n
    induction n with
    | zero => intro v2 h0 h1 h2; omega
    | succ n ih =>
      intro v2 h0 h1 h2 h3
      have s := fb_addI (x := v2) (y := 1) (by omega) (by omega)
      have e2 : (v2 + 1).toInt.toNat = v2.toInt.toNat + 1 := by omega
      have s2 := fb_addI (x := m.1 63 44) (y := v2) (by omega) (by omega)
      refine ⟨fun gg => t50 (fun _ => by rw [h3, show ((m.1 63 1).toInt - v2.toInt).toNat = 0 by omega]; rfl), fun gg => ⟨by omega, ?_⟩⟩
      have rm := zf_remG (x := m.1 63 44 + v2) (y := m.1 63 1) (by omega) (by omega)
      rw [s2] at rm
      have st : zwho (zr m) (m.1 63 44).toInt ((m.1 63 1).toInt - v2.toInt).toNat v2.toInt.toNat = if zcarryOk (zr m) (((m.1 63 44).toInt + v2.toInt) % (m.1 63 1).toInt) then ((m.1 63 44).toInt + v2.toInt) % (m.1 63 1).toInt else zwho (zr m) (m.1 63 44).toInt ((m.1 63 1).toInt - (v2 + 1).toInt).toNat (v2 + 1).toInt.toNat := by
        rw [show ((m.1 63 1).toInt - v2.toInt).toNat = ((m.1 63 1).toInt - (v2 + 1).toInt).toNat + 1 by omega, e2]
        show (if zcarryOk (zr m) (((m.1 63 44).toInt + ((v2.toInt.toNat : Nat) : Int)) % (m.1 63 1).toInt) then _ else _) = _
        rw [show ((v2.toInt.toNat : Nat) : Int) = v2.toInt by omega]
        rfl
      refine zs_166 hB (fun b1 hb1 => ⟨fun e m15 q15 => ?_, fun e => ih _ (by omega) (by omega) (by omega) ?_⟩)
      · obtain ⟨x, hx⟩ : ∃ x, x = m.1 63 44 + v2 - (m.1 63 44 + v2) / m.1 63 1 * m.1 63 1 := ⟨_, rfl⟩
        rw [← hx] at q15 rm ⊢
        have ok : zcarryOk (zr m) x.toInt := by
          rw [hx]
          exact hb1.mp e
        have w : zwho (zr m) (m.1 63 44).toInt (zr m 5 6).toNat 0 = x.toInt := by
          show zwho (zr m) (m.1 63 44).toInt (m.1 63 1).toInt.toNat 0 = _
          rw [h3, st, if_pos (by rw [← rm]; exact ok), rm]
        have xb : 0 ≤ x.toInt := ok.1.1
        refine hq x m15 ?_ (by rw [q15]; exact zrk_44 (by decide)) ?_ (by rw [q15, zf_u4 (by decide)]) (by rw [q15, zf_u4 (by decide)]) (by rw [q15]; exact zgr_u zgr_refl (by omega))
        · unfold zchoose
          rw [if_neg (by omega), if_neg (by omega), if_neg (by omega)]
          unfold zfirst
          rw [if_pos g, w]
          exact (if_neg (by omega)).symm
        · rw [q15, zf_u3]
          unfold zturn1
          rw [w]
          exact (if_pos ⟨g, by omega⟩).symm
      · rw [h3, st, if_neg (fun z => by rw [← rm] at z; exact zno hb1 e z)]
  refine ⟨7, lp 7 0 (by omega) (by omega) (by omega) ?_⟩
  rw [e0, Int.sub_zero]
  rfl
theorem zs_179 (hR : zRB (zrm m)) {rule : Int32} (hr : 0 ≤ rule.toInt ∧ rule.toInt ≤ 3) {Q : Bool → zf_Me → Prop} (hq : ∀ (b : Bool) (m' : zf_Me), (b = true → zstp (zrm m) rule.toInt = some (zrm m')) → (b = false → zstp (zrm m) rule.toInt = none ∧ zrm m' = zrm m) → zgR m m' → Q b m') : wp_179 rule m Q := by
  have e1 : (1 : Int32).toInt = 1 := rfl
  have e0 : (0 : Int32).toInt = 0 := rfl
  have hB : zB (zr m) := hR.1
  have ht : 0 ≤ (m.1 63 44).toInt ∧ (m.1 63 44).toInt ≤ 5 := hR.2.1
  have hn : 0 ≤ (m.1 63 46).toInt ∧ (m.1 63 46).toInt ≤ 60 := hR.2.2.1
  have hw : 0 ≤ (m.1 63 45).toInt ∧ (m.1 63 45).toInt ≤ 99 := hR.2.2.2
  have b := zB_r hB
  have no : zstp (zrm m) rule.toInt = none → Q false m := fun h => hq false m (fun z => nomatch z) (fun _ => ⟨h, rfl⟩) zgr_refl
  refine ⟨fun g => no ?_, fun g => ⟨fun hh' => zs_177 hB ht hr (fun x mc hx hz h1 h2 h3 hf => ?_), fun g2 => no ?_⟩⟩
  · unfold zstp
    exact if_neg (fun z => by have q : (m.1 63 46).toInt < 60 := z.1; omega)
  · have hh : (m.1 63 10).toInt < (m.1 63 0).toInt := by omega
    refine ⟨fun g2 => ?_, fun g2 => hq false mc (fun z => nomatch z) (fun _ => ⟨?_, ?_⟩) hf⟩
    · have hc : ¬ zchoose (zr m) rule.toInt (m.1 63 44).toInt = -1 := by rw [← hx]; exact g2
      have hm := zchoose_may hB hc
      have yes : zstp (zrm m) rule.toInt = some (znext (zrm m) rule.toInt (zchoose (zr m) rule.toInt (m.1 63 44).toInt)) := by
        unfold zstp
        exact if_pos ⟨by show (m.1 63 46).toInt < 60; omega, hh, hc⟩
      rw [← hx] at hm yes
      have xb : 0 ≤ x.toInt ∧ x.toInt ≤ 9 := by
        rcases hm with z | z | z | z | z
        · omega
        · omega
        · omega
        · omega
        · have q : 0 ≤ x.toInt ∧ x.toInt < (m.1 63 1).toInt := z.2.2.2.2.1
          omega
      have hB2 := zB_act hB hm
      have b2 := hB2.1
      have t1b := zturn1_b (rule := rule.toInt) hB ht
      refine zs_169 (by rw [hz]; exact hB) xb (by rw [hz]; exact hm) (fun m4 z4 f4 m5 q5 => ?_)
      rw [hz] at z4
      have z5 : zr m5 = zact (zr m) x.toInt := by rw [q5, zrk_44 (by decide), z4]
      have k4 : ∀ k, 13 ≤ k → m4.1 63 k = mc.1 63 k := fun k hk => f4.1 63 k (by omega)
      have n5 : (m5.1 63 46).toInt = (m.1 63 46).toInt + 1 := by rw [q5, zf_u3, k4 46 (by decide), h3, fb_addI (by omega) (by omega), e1]
      have w5 : m5.1 63 45 = m.1 63 45 := by rw [q5, zf_u4 (by decide), k4 45 (by decide), h2]
      have t5 : (m5.1 63 44).toInt = zturn1 (zr m) rule.toInt (m.1 63 44).toInt := by rw [q5, zf_u4 (by decide), k4 44 (by decide), h1]
      have f5 : zgR m m5 := by
        rw [q5]
        exact zgr_u (zgr_trans hf (zgc_R f4)) (by omega)
      have p5 : (m5.1 63 1).toInt = (m.1 63 1).toInt := by
        show zr m5 5 6 = _
        rw [z5, zact_people]
        rfl
      have h5 : (m5.1 63 10).toInt = zact (zr m) x.toInt 5 10 := by rw [← z5]; rfl
      -- the greatest tired, then the end
      have t93 : ∀ mj, zr mj = zr m5 → mj.1 63 45 = m5.1 63 45 → mj.1 63 46 = m5.1 63 46 → zgR m mj → (mj.1 63 44).toInt = (znext (zrm m) rule.toInt x.toInt).2.1 → wq_179_93 rule mj Q := by
        intro mj a1 a2 a3 a4 a5
        have pj : (mj.1 63 1).toInt = (m.1 63 1).toInt := by
          show zr mj 5 6 = _
          rw [a1, z5, zact_people]
          rfl
        refine zs_170 (by rw [a1, z5]; exact hB2) (fun y hy => ?_)
        rw [a1, z5, pj] at hy
        have fin : ∀ (v : Int32) (m' : zf_Me), m' = zf_u mj 63 45 v → v.toInt = (if (m.1 63 45).toInt < y.toInt then y.toInt else (m.1 63 45).toInt) → Q true m' := by
          intro v m' q' hv
          refine hq true m' (fun _ => ?_) (fun z => nomatch z) (by rw [q']; exact zgr_u a4 (by omega))
          rw [yes]
          congr 1
          unfold zrm
          rw [q', zrk_44 (by decide), a1, z5, zf_u4 (by decide), a5, zf_u4 (by decide), a3, n5, zf_u3, hv, hy]
          rfl
        rw [a2, w5]
        exact ⟨fun gy m9 q9 => fin _ m9 q9 (by rw [if_neg (by omega)]), fun gy m11 q11 => fin _ m11 q11 (by rw [if_pos (by omega)])⟩
      have keep : ¬ (¬ x.toInt = 9 ∧ 0 < (m.1 63 1).toInt ∧ zact (zr m) x.toInt 1 (zact (zr m) x.toInt 5 10 - 1).toNat = 1) → wq_179_93 rule m5 Q := fun k => t93 m5 rfl rfl rfl f5 (by
        rw [t5]
        exact (if_neg k).symm)
      have ah := zact_here (f := zr m) (a := x.toInt)
      refine ⟨fun k => keep (fun z => z.1 k), fun k => ?_⟩
      rw [if_neg k] at ah
      have ah2 : zact (zr m) x.toInt 5 10 = (m.1 63 10).toInt + 1 := ah
      have s5 := fb_subI (x := m5.1 63 10) (y := 1) (by omega) (by omega)
      have a1 : (m5.1 66 (m5.1 63 10 - 1).toInt.toNat).toInt = zact (zr m) x.toInt 1 (zact (zr m) x.toInt 5 10 - 1).toNat := by
        rw [s5, e1, h5, ← z5]
        exact (zN_lt (by rw [z5]; omega)).symm
      refine ⟨⟨by omega, by omega⟩, fun k3 => keep (fun z => k3 (by rw [a1]; exact z.2.2)), fun k3 => ⟨fun k2 => keep (fun z => by have := z.2.1; omega), fun k2 => ⟨by omega, fun m13 q13 => ?_⟩⟩⟩
      refine t93 m13 (by rw [q13, zrk_44 (by decide)]) (by rw [q13, zf_u4 (by decide)]) (by rw [q13, zf_u4 (by decide)]) (by rw [q13]; exact zgr_u f5 (by omega)) ?_
      have s9 := fb_addI (x := m5.1 63 44) (y := 1) (by omega) (by omega)
      have r9 := zf_remG (x := m5.1 63 44 + 1) (y := m5.1 63 1) (by omega) (by omega)
      have kk : ¬ x.toInt = 9 ∧ 0 < (m.1 63 1).toInt ∧ zact (zr m) x.toInt 1 (zact (zr m) x.toInt 5 10 - 1).toNat = 1 := ⟨k, by omega, by rw [← a1]; exact k3⟩
      rw [q13, zf_u3, r9, s9, t5, p5, e1]
      exact (if_pos kk).symm
    · unfold zstp
      exact if_neg (fun z => z.2.2 (by rw [← g2, hx]; rfl))
    · have hw0 : zwho (zr m) (m.1 63 44).toInt (m.1 63 1).toInt.toNat 0 = -1 ∨ ¬ rule.toInt = 0 := by
        by_cases r0 : rule.toInt = 0
        · left
          have c : zchoose (zr m) rule.toInt (m.1 63 44).toInt = -1 := by rw [← hx, g2]
          unfold zchoose at c
          rw [if_neg (by omega), if_neg (by omega), if_neg (by omega)] at c
          unfold zrest zfirst at c
          rw [if_pos r0] at c
          split at c
          · rename_i k; exact k
          · exact c
        · exact Or.inr r0
      have t1 : (mc.1 63 44).toInt = (m.1 63 44).toInt := by
        rw [h1]
        unfold zturn1
        refine if_neg (fun z => ?_)
        rcases hw0 with k | k
        · exact z.2 k
        · exact k z.1
      unfold zrm
      rw [hz, t1, h2, h3]
  · unfold zstp
    exact if_neg (fun z => by have q : (m.1 63 10).toInt < (m.1 63 0).toInt := z.2.1; omega)
theorem zs_178 (hB : zB (zr m)) {Q : zf_Me → Prop} (hq : ∀ m', zrm m' = zbeg (zr m) → zgR m m' → zr m' = zr m → Q m') : wp_178 m Q := by
  have e0 : (0 : Int32).toInt = 0 := rfl
  intro m1 q1 m3 q3
  have z3 : zr m3 = zr m := by rw [q3, zrk_44 (by decide), q1, zrk_44 (by decide)]
  have c1 : m3.1 63 1 = m.1 63 1 := by rw [q3, zf_u4 (by decide), q1, zf_u4 (by decide)]
  refine zs_170 (by rw [z3]; exact hB) (fun x hx m7 q7 => hq m7 ?_ ?_ ?_)
  · have z7 : zr m7 = zr m := by rw [q7, zrk_44 (by decide), z3]
    have a1 : (m7.1 63 44).toInt = 0 := by rw [q7, zf_u4 (by decide), q3, zf_u4 (by decide), q1, zf_u3, e0]
    have a2 : (m7.1 63 46).toInt = 0 := by rw [q7, zf_u4 (by decide), q3, zf_u3, e0]
    have a3 : (m7.1 63 45).toInt = zgr (zr m) (zr m 5 6).toNat := by
      rw [q7, zf_u3, hx, z3, c1]
      rfl
    unfold zrm zbeg
    rw [z7, a1, a2, a3]
  · rw [q7, q3, q1]
    exact zgr_u (zgr_u (zgr_u zgr_refl (by omega)) (by omega)) (by omega)
  · rw [q7, zrk_44 (by decide), z3]
abbrev zcoL (a k : Nat) : Prop := zcore a k ∨ (a = 63 ∧ 44 ≤ k ∧ k ≤ 49) ∨ a = 81
abbrev zgL (m m' : zf_Me) : Prop := zgr' zcoL m m'
theorem zA_of {P : Nat → Nat → Prop} {a o : Nat} {m m' : zf_Me} (h : zgr' P m m') (hp : ∀ k, ¬ P a k) : zA a o m' = zA a o m := zL_ext (fun i _ => by rw [h.1 a _ (hp _)])
/-- a rule led to the end; what was before lies in the row -/
theorem zs_181 (hB : zB (zr m)) {rule : Int32} (hr : 0 ≤ rule.toInt ∧ rule.toInt ≤ 3) {Q : zf_Me → Prop} (hq : ∀ m', zrm m' = zgo rule.toInt 60 (zbeg (zr m)) → zA 81 0 m' = zr m → zgL m m' → m'.1 63 47 = m'.1 63 10 → m'.1 63 48 = m'.1 63 11 → m'.1 63 49 = m'.1 63 45 → Q m') : wp_181 rule m Q := by
  refine zs_161s (by decide) rfl (by decide) (fun m2 s2 f2 z2 => zs_178 (by rw [z2]; exact hB) (fun m4 z4 f4 y4 => ?_))
  rw [z2] at z4 y4
  have A4 : zA 81 0 m4 = zr m := by
    rw [zA_of f4 (fun k => by omega)]
    exact s2
  have F4 : zgL m m4 := zgr_trans (zgr_mono f2 (fun a k h => by omega)) (zgr_mono f4 (fun a k h => by omega))
  have fin : ∀ (n : Nat) (mj : zf_Me), zgL m mj → zA 81 0 mj = zr m → zgo rule.toInt 60 (zbeg (zr m)) = zgo rule.toInt (60 - (zrm mj).2.2.1).toNat (zrm mj) → zstp (zrm mj) rule.toInt = none → wq_181_16 rule Q (n + 1) 0 mj := by
    intro n mj h3 h4 h5 hs
    refine ⟨fun _ m5 q5 m7 q7 m9 q9 => hq m9 ?_ ?_ ?_ ?_ ?_ ?_, fun z => absurd rfl z⟩
    · have e : zrm m9 = zrm mj := by
        have z9 : zr m9 = zr mj := by rw [q9, zrk_44 (by decide), q7, zrk_44 (by decide), q5, zrk_44 (by decide)]
        have k : ∀ k, ¬ k = 47 → ¬ k = 48 → ¬ k = 49 → m9.1 63 k = mj.1 63 k := fun k k7 k8 k9 => by rw [q9, zf_u4 k9, q7, zf_u4 k8, q5, zf_u4 k7]
        unfold zrm
        rw [z9, k 44 (by decide) (by decide) (by decide), k 46 (by decide) (by decide) (by decide), k 45 (by decide) (by decide) (by decide)]
      rw [e, h5]
      cases hk : (60 - (zrm mj).2.2.1).toNat with
      | zero => rfl
      | succ k =>
        show _ = (match zstp (zrm mj) rule.toInt with | none => zrm mj | some s' => zgo rule.toInt k s')
        rw [hs]
    · rw [← h4]
      refine zL_ext (fun i _ => ?_)
      rw [q9, zf_u1 (by decide), q7, zf_u1 (by decide), q5, zf_u1 (by decide)]
    · rw [q9, q7, q5]
      exact zgr_u (zgr_u (zgr_u h3 (by omega)) (by omega)) (by omega)
    · rw [q9, zf_u4 (by decide), zf_u4 (by decide), q7, zf_u4 (by decide), zf_u4 (by decide), q5, zf_u3, zf_u4 (by decide)]
    · rw [q9, zf_u4 (by decide), zf_u4 (by decide), q7, zf_u3, zf_u4 (by decide)]
    · rw [q9, zf_u3, zf_u4 (by decide)]
  have lp : ∀ (n : Nat) (mj : zf_Me), zRB (zrm mj) → 60 - (zrm mj).2.2.1 + 1 < n → zgL m mj → zA 81 0 mj = zr m → zgo rule.toInt 60 (zbeg (zr m)) = zgo rule.toInt (60 - (zrm mj).2.2.1).toNat (zrm mj) → wq_181_16 rule Q n 1 mj := by
    intro n
    induction n with
    | zero =>
      intro mj h1 h2
      have := h1.2.2.1
      omega
    | succ n ih =>
      intro mj h1 h2 h3 h4 h5
      have nb := h1.2.2.1
      refine ⟨fun z => absurd z (by decide), fun _ => zs_179 h1 hr (fun b m' y1 n1 f1 => ?_)⟩
      have F' : zgL m m' := zgr_trans h3 (zgr_mono f1 (fun a k h => by omega))
      have A' : zA 81 0 m' = zr m := by
        rw [zA_of f1 (fun k => by omega)]
        exact h4
      cases b with
      | true =>
        have z := y1 rfl
        have rb := zRB_stp h1 z
        have acts : (zrm m').2.2.1 = (zrm mj).2.2.1 + 1 ∧ (zrm mj).2.2.1 < 60 := by
          have z2 := z
          unfold zstp at z2
          split at z2
          · rename_i g
            have := Option.some.inj z2
            rw [← this]
            exact ⟨rfl, g.1⟩
          · cases z2
        refine ih m' rb (by omega) F' A' ?_
        rw [h5, show (60 - (zrm mj).2.2.1).toNat = (60 - (zrm m').2.2.1).toNat + 1 by omega]
        show (match zstp (zrm mj) rule.toInt with | none => zrm mj | some s' => zgo rule.toInt (60 - (zrm m').2.2.1).toNat s') = _
        rw [z]
      | false =>
        have z := n1 rfl
        obtain ⟨k, rfl⟩ : ∃ k, n = k + 1 := ⟨n - 1, by omega⟩
        exact fin k m' F' A' (by rw [z.2]; exact h5) (by rw [z.2]; exact z.1)
  exact ⟨63, lp 63 m4 (by rw [z4]; exact zRB_beg hB) (by rw [z4]; show (60 : Int) - 0 + 1 < 63; decide) F4 A4 (by rw [z4]; rfl)⟩
theorem zs_182 {Q : zf_Me → Prop} (hq : ∀ m', zr m' = zA 81 0 m → zgc m m' → Q m') : wp_182 m Q :=
  zs_161b (by decide) (by decide) (by decide) (fun m' z f => hq m' z f)
end
end
section
/-! part 65: the reference between calls (JM); its simple calls -/
abbrev zfd (m m' : zf_Me) : Prop := ∀ a, a < 63 → m'.1 a = m.1 a ∧ m'.2 a = m.2 a
def zsR (m : zf_Me) : Prop := ∀ j, j < 8 → (0 ≤ (m.1 70 j).toInt ∧ (m.1 70 j).toInt ≤ 2) ∧ (0 ≤ (m.1 72 j).toInt ∧ (m.1 72 j).toInt ≤ 160) ∧ ((m.1 70 j).toInt = 2 → 0 ≤ (m.1 73 j).toInt ∧ (m.1 73 j).toInt ≤ 5)
def zkp (m : zf_Me) : Prop := (m.1 63 52).toInt = 0 ∨ zB (zA 80 0 m)
def zwl : List Int32 := [117, 112, 32, 0, 100, 111, 119, 110, 32, 0, 115, 116, 105, 108, 101, 0, 112, 101, 114, 115, 111, 110, 32, 0, 116, 105, 114, 101, 100, 32, 0, 98, 97, 103, 32, 0, 108, 101, 103, 115, 32, 0, 110, 97, 112, 32, 0, 119, 111, 114, 110, 32, 0, 98, 105, 115, 99, 117, 105, 116, 115, 32, 0, 114, 97, 99, 101, 115, 32, 0, 97, 99, 116, 32, 0]
def znl : List Int32 := [1, 1, 0, 2, 2, 1, 1, 1, 1, 1, 1, 1]
def zwd (m : zf_Me) : Prop := (∀ k, k < 75 → m.1 76 k = zwl.getD k 0) ∧ (∀ k, k < 12 → m.1 77 k = znl.getD k 0)
def JM (m : zf_Me) : Prop := zB (zr m) ∧ zsR m ∧ zkp m ∧ zwd m
abbrev zcoQ (a k : Nat) : Prop := (a = 63 ∧ ¬ k = 52 ∧ ¬ k = 51 ∧ ¬ k = 13) ∨ (64 ≤ a ∧ a ≤ 69) ∨ a = 78 ∨ a = 79 ∨ (81 ≤ a ∧ a ≤ 84)
abbrev zgQ (m m' : zf_Me) : Prop := zgr' zcoQ m m'
theorem zfd_of {P : Nat → Nat → Prop} {m m' : zf_Me} (h : zgr' P m m') (hp : ∀ a k, P a k → 63 ≤ a) : zfd m m' := fun a ha => ⟨by
  funext k
  exact h.1 a k (fun z => by have := hp a k z; omega), by rw [h.2]⟩
/-- as zgQ, and the fault, the trace -/
abbrev zcoB (a k : Nat) : Prop := (a = 63 ∧ ¬ k = 52) ∨ (64 ≤ a ∧ a ≤ 69) ∨ a = 78 ∨ a = 79 ∨ (81 ≤ a ∧ a ≤ 85)
abbrev zgB (m m' : zf_Me) : Prop := zgr' zcoB m m'
theorem JM_b {m m' : zf_Me} (hJ : JM m) (h : zgB m m') (hB : zB (zr m')) : JM m' := by
  refine ⟨hB, fun j hj => ?_, ?_, fun k hk => ?_, fun k hk => ?_⟩
  · rw [h.1 70 j (by omega), h.1 72 j (by omega), h.1 73 j (by omega)]
    exact hJ.2.1 j hj
  · unfold zkp
    rw [h.1 63 52 (by omega), zA_of h (fun k => by omega)]
    exact hJ.2.2.1
  · rw [h.1 76 k (by omega)]
    exact hJ.2.2.2.1 k hk
  · rw [h.1 77 k (by omega)]
    exact hJ.2.2.2.2 k hk
theorem zgQ_b {m m' : zf_Me} (h : zgQ m m') : zgB m m' := zgr_mono h (fun a k z => by omega)
theorem JM_q {m m' : zf_Me} (hJ : JM m) (h : zgQ m m') (hB : zB (zr m')) : JM m' := JM_b hJ (zgQ_b h) hB
theorem zfd_q {m m' : zf_Me} (h : zgQ m m') : zfd m m' := zfd_of h (fun a k z => by omega)
theorem zgc_q {m m' : zf_Me} (h : zgc m m') : zgQ m m' := zgr_mono h (fun a k z => by omega)
theorem zgL_q {m m' : zf_Me} (h : zgL m m') : zgQ m m' := zgr_mono h (fun a k z => by omega)
theorem zg64_q {m m' : zf_Me} (h : zgr' (fun a _ => a = 64) m m') : zgQ m m' := zgr_mono h (fun a k z => by omega)
theorem zg64_r {m m' : zf_Me} (h : zgr' (fun a _ => a = 64) m m') : zr m' = zr m := zr_of h (fun a k z => by omega)
/-- only shelves of the reference -/
theorem JM_s {m m' : zf_Me} (hJ : JM m) (h : ∀ a, ¬ (70 ≤ a ∧ a ≤ 73) → m'.1 a = m.1 a) (hs : zsR m') : JM m' := by
  refine ⟨?_, hs, ?_, fun k hk => ?_, fun k hk => ?_⟩
  · rw [show zr m' = zr m from zr_fr (fun k _ => by rw [h 63 (by decide)]) (fun a _ _ => h a (by omega))]
    exact hJ.1
  · unfold zkp
    rw [h 63 (by decide), show zA 80 0 m' = zA 80 0 m from zL_ext (fun i _ => by rw [h 80 (by decide)])]
    exact hJ.2.2.1
  · rw [h 76 (by decide)]
    exact hJ.2.2.2.1 k hk
  · rw [h 77 (by decide)]
    exact hJ.2.2.2.2 k hk
theorem zix {s i : Int32} (hs : 0 ≤ s.toInt ∧ s.toInt < 8) (hi : 0 ≤ i.toInt ∧ i.toInt ≤ 160) : (160 * s + i).toInt = 160 * s.toInt + i.toInt := by
  have e : (160 : Int32).toInt = 160 := rfl
  have m := fb_mulI (x := 160) (y := s) (by rw [e]; omega) (by rw [e]; omega)
  rw [e] at m
  rw [fb_addI (by rw [m]; omega) (by rw [m]; omega), m]
section
variable {m : zf_Me}
theorem zs_173 (hB : zB (zr m)) {Q : Int32 → zf_Me → Prop} (hq : Q (Int32.ofNat (zbits (zr m) 10)) m) : wp_173 m Q := by
  have e1 : (1 : Int32).toInt = 1 := rfl
  have lp : ∀ (n : Nat) (v1 v2 : Int32), 0 ≤ v2.toInt → v2.toInt ≤ 10 → 10 - v2.toInt < n → v1 = Int32.ofNat (zbits (zr m) v2.toInt.toNat) → wq_173_4 Q n v1 v2 m := by
    intro n
    induction n with
    | zero => intro v1 v2 h0 h1 h2; omega
    | succ n ih =>
      intro v1 v2 h0 h1 h2 h3
      refine ⟨fun g => ?_, fun g => zs_167 hB g (fun b hb => ?_)⟩
      · rw [h3, show v2.toInt = 10 by omega]
        exact hq
      · have s := fb_addI (x := v2) (y := 1) (by omega) (by omega)
        have e2 : (v2 + 1).toInt.toNat = v2.toInt.toNat + 1 := by omega
        have ev : v2 = Int32.ofNat v2.toInt.toNat := zn_of _ _ (by omega)
        have ej : ((v2.toInt.toNat : Nat) : Int) = v2.toInt := by omega
        refine ⟨fun e => ih _ _ (by omega) (by omega) (by omega) ?_, fun e => ih _ _ (by omega) (by omega) (by omega) ?_⟩
        · have st : zbits (zr m) (v2.toInt.toNat + 1) = zbits (zr m) v2.toInt.toNat := by
            show (if zmay (zr m) ((v2.toInt.toNat : Nat) : Int) then _ else _) = _
            rw [ej, if_neg (zno hb e)]
          rw [h3, e2, st]
        · rw [e2]
          have st : zbits (zr m) (v2.toInt.toNat + 1) = zbits (zr m) v2.toInt.toNat + 2 ^ v2.toInt.toNat := by
            show (if zmay (zr m) ((v2.toInt.toNat : Nat) : Int) then _ else _) = _
            rw [ej, if_pos (hb.mp e)]
          rw [st, ← zbits_or v2.toInt.toNat (by omega) _ (zbits_lt _ _), h3, ← ev]
  exact ⟨12, lp 12 0 0 (by decide) (by decide) (by decide) rfl⟩
end
end
section
/-! part 66: the reference's trials of its rules -/
theorem zB_bis {f : zS} {x : Int} (h : zB f) (hx : 0 ≤ x ∧ x ≤ 9) : zB (zU f 5 3 x) := by
  have h1 := h.1
  refine ⟨?_, zB2_u5 h.2.1, zB3_u5 h.2.2⟩
  show zB1 (f 5 0) (f 5 1) (f 5 2) x (f 5 4) (f 5 5) (f 5 6) (f 5 7) (f 5 8) (f 5 9) (f 5 10) (f 5 11) (f 5 12)
  omega
theorem zB_worn {f : zS} {x : Int} (h : zB f) (hx : 1 ≤ x ∧ x ≤ 99) : zB (zU f 5 2 x) := by
  have h1 := h.1
  refine ⟨?_, zB2_u5 h.2.1, zB3_u5 h.2.2⟩
  show zB1 (f 5 0) (f 5 1) x (f 5 3) (f 5 4) (f 5 5) (f 5 6) (f 5 7) (f 5 8) (f 5 9) (f 5 10) (f 5 11) (f 5 12)
  omega
section
variable {m : zf_Me}
theorem zs_tr (hB : zB (zr m)) {rule : Int32} (hr : 0 ≤ rule.toInt ∧ rule.toInt ≤ 3) {Q : zf_Me → Prop} (hq : ∀ m4, zgL m m4 → zrm m4 = zgo rule.toInt 60 (zbeg (zr m)) → zB (zr m4) → (∀ {R : zf_Me → Prop}, (∀ m6, zgL m m6 → zr m6 = zr m → m6.1 63 47 = m4.1 63 10 → m6.1 63 48 = m4.1 63 11 → m6.1 63 49 = m4.1 63 45 → R m6) → wp_182 m4 R) → Q m4) : wp_181 rule m Q := by
  refine zs_181 hB hr (fun m4 z4 a4 f4 e7 e8 e9 => hq m4 f4 z4 ?_ (fun k => zs_182 (fun m6 z6 f6 => k m6 ?_ ?_ ?_ ?_ ?_)))
  · have := (zRB_go (rule := rule.toInt) 60 (zRB_beg hB)).1
    rw [← z4] at this
    exact this
  · exact zgr_trans f4 (zgr_mono f6 (fun a k z => Or.inl z))
  · rw [z6]
    exact a4
  · rw [f6.1 63 47 (by omega), e7]
  · rw [f6.1 63 48 (by omega), e8]
  · rw [f6.1 63 49 (by omega), e9]
theorem zgL_t {a b c : zf_Me} (h : zgL a b) (k : zgL b c) : zgL a c := zgr_trans h k
end
end
