/-! part 61: the reference's walks keep to the same functions -/
def zgr' (P : Nat → Nat → Prop) (m m' : zf_Me) : Prop := (∀ a k, ¬ P a k → m'.1 a k = m.1 a k) ∧ m'.2 = m.2
theorem zgr_refl {P : Nat → Nat → Prop} {m : zf_Me} : zgr' P m m := ⟨fun _ _ _ => rfl, rfl⟩
theorem zgr_trans {P : Nat → Nat → Prop} {a b c : zf_Me} (h : zgr' P a b) (k : zgr' P b c) : zgr' P a c := ⟨fun i j hi => (k.1 i j hi).trans (h.1 i j hi), k.2.trans h.2⟩
theorem zgr_mono {P P' : Nat → Nat → Prop} {m m' : zf_Me} (h : zgr' P m m') (hp : ∀ a k, P a k → P' a k) : zgr' P' m m' := ⟨fun a k ha => h.1 a k (fun z => ha (hp a k z)), h.2⟩
theorem zgr_u {P : Nat → Nat → Prop} {m m' : zf_Me} {c k : Nat} {x : Int32} (h : zgr' P m m') (hc : P c k) : zgr' P m (zf_u m' c k x) := by
  refine ⟨fun a j ha => ?_, h.2⟩
  by_cases e : a = c
  · subst e
    by_cases f : j = k
    · subst f; exact absurd hc ha
    · rw [zf_u4 f]; exact h.1 _ _ ha
  · rw [zf_u1 e]; exact h.1 _ _ ha
/-- of the reference: the numbers and rows of its walk -/
abbrev zcore (a k : Nat) : Prop := (a = 63 ∧ k < 13) ∨ (65 ≤ a ∧ a ≤ 69)
abbrev zgc (m m' : zf_Me) : Prop := zgr' zcore m m'
theorem zr_of {P : Nat → Nat → Prop} {m m' : zf_Me} (h : zgr' P m m') (hp : ∀ a k, P a k → ¬ zcore a k) : zr m' = zr m := by
  refine zr_fr (fun k hk => h.1 63 k (fun z => hp _ _ z (Or.inl ⟨rfl, hk⟩))) (fun a h1 h2 => ?_)
  funext k
  exact h.1 a k (fun z => hp _ _ z (Or.inr ⟨h1, h2⟩))
section
variable {m : zf_Me}
theorem zs_125 {w : Int32} (hw : -8 < w.toInt ∧ w.toInt ≤ 0) {Q : Int32 → zf_Me → Prop} (hq : ∀ m', zgr' (fun a _ => a = 64) m m' → Q w m') : wp_125 w m Q := by
  have s := fb_negI (x := w) (by omega)
  exact ⟨by omega, by omega, fun m1 q1 => hq m1 (by rw [q1]; exact zgr_u zgr_refl rfl)⟩
theorem zs_126 {w : Int32} (hw : -8 < w.toInt ∧ w.toInt ≤ 0) {Q : Int32 → zf_Me → Prop} (hq : ∀ m', zgr' (fun a _ => a = 64) m m' → Q (w - 10) m') : wp_126 w m Q := by
  have s := fb_negI (x := w) (by omega)
  exact ⟨by omega, by omega, fun m1 q1 => hq m1 (by rw [q1]; exact zgr_u zgr_refl rfl)⟩
theorem zs_127 {v : Int32} {Q : Bool → zf_Me → Prop} (ht : 0 ≤ v.toInt ∧ v.toInt < 8 → Q true m) (hf : ¬ (0 ≤ v.toInt ∧ v.toInt < 8) → Q false m) : wp_127 v m Q :=
  ⟨fun g => hf (by omega), fun g => ⟨fun g2 => hf (by omega), fun g2 => ht (by omega)⟩⟩
theorem zs_180 {v : Int32} {Q : Bool → zf_Me → Prop} (ht : 0 ≤ v.toInt ∧ v.toInt ≤ 3 → Q true m) (hf : ¬ (0 ≤ v.toInt ∧ v.toInt ≤ 3) → Q false m) : wp_180 v m Q :=
  ⟨fun g => hf (by omega), fun g => ⟨fun g2 => hf (by omega), fun g2 => ht (by omega)⟩⟩
theorem zs_128 {v : Int32} {Q : Bool → zf_Me → Prop} (ht : 0 ≤ v.toInt ∧ v.toInt < (m.1 63 1).toInt → Q true m) (hf : ¬ (0 ≤ v.toInt ∧ v.toInt < (m.1 63 1).toInt) → Q false m) : wp_128 v m Q :=
  ⟨fun g => hf (by omega), fun g => ⟨fun g2 => hf (by omega), fun g2 => ht (by omega)⟩⟩
theorem zs_129 {v : Int32} {Q : Bool → zf_Me → Prop} (ht : 0 ≤ v.toInt ∧ v.toInt < (m.1 63 0).toInt → Q true m) (hf : ¬ (0 ≤ v.toInt ∧ v.toInt < (m.1 63 0).toInt) → Q false m) : wp_129 v m Q :=
  ⟨fun g => hf (by omega), fun g => ⟨fun g2 => hf (by omega), fun g2 => ht (by omega)⟩⟩
theorem zs_140 (hp : 0 ≤ (m.1 63 0).toInt ∧ (m.1 63 0).toInt < 24) {s t : Int32} {Q : Int32 → zf_Me → Prop} (hq : ∀ m', zr m' = zaddF (zr m) s.toInt t.toInt → zgc m m' → Q (m.1 63 0) m') : wp_140 s t m Q := by
  have e1 : (1 : Int32).toInt = 1 := rfl
  refine ⟨hp, fun m1 q1 => ?_⟩
  have c1 : m1.1 63 0 = m.1 63 0 := by rw [q1, zf_u1 (by decide)]
  rw [c1]
  refine ⟨hp, fun m3 q3 m5 q5 => ?_⟩
  have c3 : m3.1 63 0 = m.1 63 0 := by rw [q3, zf_u1 (by decide), c1]
  rw [c3]
  refine hq m5 ?_ ?_
  · rw [q5, zr_w0, q3, zr_a1 (by omega), q1, zr_a0 (by omega), ← q1, ← q3, c3, fb_addI (by omega) (by omega), e1]
    rfl
  · rw [q5, q3, q1]
    exact zgr_u (zgr_u (zgr_u zgr_refl (by omega)) (by omega)) (by omega)
theorem zs_141 (hp : 0 ≤ (m.1 63 1).toInt ∧ (m.1 63 1).toInt < 6) {k a : Int32} {Q : Int32 → zf_Me → Prop} (hq : ∀ m', zr m' = zaddP (zr m) k.toInt a.toInt → zgc m m' → Q (m.1 63 1) m') : wp_141 k a m Q := by
  have e1 : (1 : Int32).toInt = 1 := rfl
  have e0 : (0 : Int32).toInt = 0 := rfl
  refine ⟨hp, fun m1 q1 => ?_⟩
  have c1 : m1.1 63 1 = m.1 63 1 := by rw [q1, zf_u1 (by decide)]
  rw [c1]
  refine ⟨hp, fun m3 q3 => ?_⟩
  have c3 : m3.1 63 1 = m.1 63 1 := by rw [q3, zf_u1 (by decide), c1]
  rw [c3]
  refine ⟨hp, fun m5 q5 m7 q7 => ?_⟩
  have c5 : m5.1 63 1 = m.1 63 1 := by rw [q5, zf_u1 (by decide), c3]
  rw [c5]
  refine hq m7 ?_ ?_
  · rw [q7, zr_w1, q5, zr_a4 (by omega), q3, zr_a3 (by omega), q1, zr_a2 (by omega), ← q1, ← q3, ← q5, c5, fb_addI (by omega) (by omega), e1, e0]
    rfl
  · rw [q7, q5, q3, q1]
    exact zgr_u (zgr_u (zgr_u (zgr_u zgr_refl (by omega)) (by omega)) (by omega)) (by omega)
theorem zs_146 {w v : Int32} (hw : 0 ≤ w.toInt) {Q : Bool → zf_Me → Prop} (ht : zlo w.toInt.toNat ≤ v.toInt ∧ v.toInt ≤ zhi w.toInt.toNat → Q true m) (hf : ¬ (zlo w.toInt.toNat ≤ v.toInt ∧ v.toInt ≤ zhi w.toInt.toNat) → Q false m) : wp_146 w v m Q := by
  have t11 : ∀ u0 : Int32, u0.toInt = zlo w.toInt.toNat → wq_146_11 w v u0 v m Q := by
    intro u0 hu
    have h2 : w.toInt = 2 → zhi w.toInt.toNat = 99 := fun z => by unfold zhi; rw [if_pos (by omega)]
    have h9 : ¬ w.toInt = 2 → zhi w.toInt.toNat = 9 := fun z => by unfold zhi; rw [if_neg (by omega)]
    exact ⟨fun g => hf (by omega), fun g => ⟨fun k => ⟨fun g2 => hf (by rw [h9 k]; omega), fun g2 => ht (by rw [h9 k]; omega)⟩, fun k => ⟨fun g2 => hf (by rw [h2 k]; omega), fun g2 => ht (by rw [h2 k]; omega)⟩⟩⟩
  unfold wp_146
  refine ⟨fun g => t11 _ ?_, fun g => t11 _ ?_⟩
  · unfold zlo
    first | (rw [if_neg (by omega)]; rfl) | (rw [if_pos (by omega)]; rfl)
  · unfold zlo
    first | (rw [if_pos (by omega)]; rfl) | (rw [if_neg (by omega)]; rfl)
theorem zs_147 {w : Int32} (hw : 0 ≤ w.toInt ∧ w.toInt < 5) {Q : Int32 → zf_Me → Prop} (hq : ∀ x : Int32, x.toInt = zr m 5 w.toInt.toNat → Q x m) : wp_147 w m Q := by
  refine ⟨fun g => ⟨fun g1 => ⟨fun g2 => ⟨fun g3 => hq _ ?_, fun g3 => hq _ ?_⟩, fun g2 => hq _ ?_⟩, fun g1 => hq _ ?_⟩, fun g => hq _ ?_⟩
  · rw [show w.toInt.toNat = 4 by omega]; rfl
  · rw [g3]; rfl
  · rw [g2]; rfl
  · rw [g1]; rfl
  · rw [g]; rfl
theorem zs_148 {w v : Int32} (hw : 0 ≤ w.toInt ∧ w.toInt < 5) {Q : zf_Me → Prop} (hq : ∀ m', zr m' = zU (zr m) 5 w.toInt.toNat v.toInt → zgc m m' → Q m') : wp_148 w v m Q := by
  refine ⟨fun g m1 q1 => hq m1 ?_ ?_, fun g m1 q1 => hq m1 ?_ ?_, fun g m1 q1 => hq m1 ?_ ?_, fun g m1 q1 => hq m1 ?_ ?_, fun g m1 q1 => hq m1 ?_ ?_⟩
  · rw [q1, zr_w8, show w.toInt.toNat = 4 by omega]
  · rw [q1]; exact zgr_u zgr_refl (by omega)
  · rw [q1, zr_w4, g]; rfl
  · rw [q1]; exact zgr_u zgr_refl (by omega)
  · rw [q1, zr_w5, g]; rfl
  · rw [q1]; exact zgr_u zgr_refl (by omega)
  · rw [q1, zr_w9, g]; rfl
  · rw [q1]; exact zgr_u zgr_refl (by omega)
  · rw [q1, zr_w7, g]; rfl
  · rw [q1]; exact zgr_u zgr_refl (by omega)
theorem zU_id {f : zS} {c k : Nat} : zU f c k (f c k) = f := by
  funext a b
  unfold zU
  split
  · rename_i h
    rw [h.1, h.2]
  · rfl
theorem zs_149 {w v : Int32} (hw : 0 ≤ w.toInt ∧ w.toInt < 5) {Q : Int32 → zf_Me → Prop} (hq : ∀ (x : Int32) (m' : zf_Me), x.toInt = zr m 5 w.toInt.toNat → zr m' = zask (zr m) w.toInt.toNat v.toInt → zgc m m' → Q x m') : wp_149 w v m Q := by
  refine zs_147 hw (fun x hx => zs_148 hw (fun m4 z4 f4 => ⟨fun g => hq x m4 hx ?_ f4, fun g => ?_⟩))
  · rw [z4]
    unfold zask
    rw [if_neg (by omega)]
  · have w0 : w.toInt.toNat = 0 := by omega
    have c3 : (m4.1 63 3).toInt = (m.1 63 3).toInt := by
      show zr m4 5 8 = _
      rw [z4, w0]
      rfl
    have st : zask (zr m) w.toInt.toNat v.toInt = zU (zU (zr m) 5 0 v.toInt) 5 8 (if v.toInt < (m.1 63 3).toInt then v.toInt else (m.1 63 3).toInt) := by
      unfold zask
      rw [if_pos w0]
      rfl
    refine ⟨fun g2 => hq x m4 hx ?_ f4, fun g2 m5 q5 => hq x m5 hx ?_ (by rw [q5]; exact zgr_u f4 (by omega))⟩
    · rw [st, z4, w0, if_neg (by omega)]
      exact zU_id.symm
    · rw [st, q5, zr_w3, z4, w0, if_pos (by omega)]
theorem zs_164 {Q : Bool → zf_Me → Prop} (hq : ∀ b, (b = true ↔ ¬ (m.1 63 6).toInt < (m.1 63 5).toInt) → Q b m) : wp_164 m Q :=
  ⟨fun g => hq false (zb_f (by omega)), fun g => hq true (zb_t (by omega))⟩
theorem zs_165 (hB : zB (zr m)) {p v : Int32} (hp : 0 ≤ p.toInt ∧ p.toInt < 6) (hv : -3 ≤ v.toInt ∧ v.toInt ≤ 3) {Q : Int32 → zf_Me → Prop} (hq : ∀ x : Int32, x.toInt = zload (zr m) p.toInt.toNat v.toInt → Q x m) : wp_165 p v m Q := by
  have b3 := zB_r3 hB (k := p.toInt.toNat) (by omega)
  have e4 : (4 : Int32).toInt = 4 := rfl
  have e2 : (2 : Int32).toInt = 2 := rfl
  have e1 : (1 : Int32).toInt = 1 := rfl
  have n1 : (-1 : Int32).toInt = -1 := rfl
  have n2 : (-2 : Int32).toInt = -2 := rfl
  have a2 : zr m 2 p.toInt.toNat = (m.1 67 p.toInt.toNat).toInt := zN_lt (by omega)
  have a4 : zr m 4 p.toInt.toNat = (m.1 69 p.toInt.toNat).toInt := zN_lt (by omega)
  have a7 : zr m 5 7 = (m.1 63 2).toInt := rfl
  have s1 := fb_addI (x := 4) (y := v) (by omega) (by omega)
  have tl : ∀ x : Int32, x.toInt = 4 + v.toInt + zmore (m.1 67 p.toInt.toNat).toInt + (if (m.1 67 p.toInt.toNat).toInt = 6 then (m.1 69 p.toInt.toNat).toInt / 10 else 0) → wq_165_89 p v x m Q := by
    intro x hx
    have hb := zmore_b (m.1 67 p.toInt.toNat).toInt
    have hd : 0 ≤ (if (m.1 67 p.toInt.toNat).toInt = 6 then (m.1 69 p.toInt.toNat).toInt / 10 else 0) ∧ (if (m.1 67 p.toInt.toNat).toInt = 6 then (m.1 69 p.toInt.toNat).toInt / 10 else 0) ≤ 10 := by split <;> omega
    have s4 := fb_addI (x := x) (y := 2) (by omega) (by omega)
    have fin : ∀ z : Int32, z.toInt = zld (m.1 67 p.toInt.toNat).toInt (m.1 69 p.toInt.toNat).toInt v.toInt ((m.1 63 2).toInt = (p.toInt.toNat : Int)) → wq_165_100 p v z m Q := by
      intro z hz
      refine ⟨fun g => hq z ?_, fun g => hq 1 ?_⟩
      · unfold zload
        rw [a2, a4, a7, ← hz, if_neg (by omega)]
      · unfold zload
        rw [a2, a4, a7, ← hz, if_pos (by omega)]
        rfl
    refine ⟨fun g => fin x ?_, fun g => fin _ ?_⟩
    · rw [hx]
      unfold zld
      rw [if_neg (c := (m.1 63 2).toInt = _) (by omega)]
      omega
    · rw [s4, hx]
      unfold zld
      rw [if_pos (c := (m.1 63 2).toInt = _) (by omega)]
      omega
  have hd := zf_divI (x := m.1 69 p.toInt.toNat) (by omega)
  refine ⟨by omega, fun g => tl _ ?_, fun g => tl _ ?_, fun g => tl _ ?_, fun g => tl _ ?_, fun g => tl _ ?_, fun g => tl _ ?_, fun g => ⟨by omega, tl _ ?_⟩⟩
  · have k0 : (m.1 67 p.toInt.toNat).toInt = 0 := by omega
    rw [s1, k0]
    rw [e4, show zmore 0 = 0 from rfl, if_neg (by decide)]
    omega
  · rw [fb_addI (by omega) (by omega), s1, g, n1]
    rw [e4, show zmore 1 = -1 from rfl, if_neg (by decide)]
    omega
  · rw [fb_addI (by omega) (by omega), s1, g, e1]
    rw [e4, show zmore 2 = 1 from rfl, if_neg (by decide)]
    omega
  · rw [fb_addI (by omega) (by omega), s1, g, n2]
    rw [e4, show zmore 3 = -2 from rfl, if_neg (by decide)]
    omega
  · rw [fb_addI (by omega) (by omega), s1, g, e2]
    rw [e4, show zmore 4 = 2 from rfl, if_neg (by decide)]
    omega
  · rw [s1, g, e4, show zmore 5 = 0 from rfl, if_neg (by decide)]
    omega
  · have s5 := fb_addI (x := 2) (y := m.1 69 p.toInt.toNat / 10) (by omega) (by omega)
    rw [fb_addI (by omega) (by omega), s1, s5, hd, g, e4, e2, if_pos rfl, show zmore 6 = 2 from rfl]
    omega
theorem zs_166 (hB : zB (zr m)) {v : Int32} {Q : Bool → zf_Me → Prop} (hq : ∀ b, (b = true ↔ zcarryOk (zr m) v.toInt) → Q b m) : wp_166 v m Q := by
  have b := zB_r hB
  refine zs_128 (fun hp => ⟨fun z => (nomatch z), fun _ => ⟨fun g => hq false (zb_f (fun z => by have : (m.1 63 10).toInt < (m.1 63 0).toInt := z.2.1; omega)), fun hh => ?_⟩⟩) (fun h => ⟨fun _ => hq false (zb_f (fun z => h z.1)), fun z => (nomatch z)⟩)
  have b2 := zB_r2 hB (k := (m.1 63 10).toInt.toNat) (by omega)
  have b3 := zB_r3 hB (k := v.toInt.toNat) (by omega)
  have a2 : zr m 2 v.toInt.toNat = (m.1 67 v.toInt.toNat).toInt := zN_lt (by omega)
  have a4 : zr m 4 v.toInt.toNat = (m.1 69 v.toInt.toNat).toInt := zN_lt (by omega)
  have sl : zslope (zr m) = (m.1 65 (m.1 63 10).toInt.toNat).toInt := zN_lt (k := (m.1 63 10).toInt.toNat) (by omega)
  have key : zcarryOk (zr m) v.toInt ↔ ((0 ≤ v.toInt ∧ v.toInt < (m.1 63 1).toInt) ∧ (m.1 63 10).toInt < (m.1 63 0).toInt ∧ ¬ (((m.1 67 v.toInt.toNat).toInt = 2 ∨ (m.1 67 v.toInt.toNat).toInt = 5) ∧ (m.1 63 6).toInt < (m.1 63 5).toInt) ∧ ¬ ((m.1 67 v.toInt.toNat).toInt = 6 ∧ 1 < (m.1 65 (m.1 63 10).toInt.toNat).toInt) ∧ (m.1 69 v.toInt.toNat).toInt + zload (zr m) v.toInt.toNat (m.1 65 (m.1 63 10).toInt.toNat).toInt ≤ (m.1 63 9).toInt) := by
    unfold zcarryOk
    rw [a2, sl, a4]
    exact Iff.rfl
  have lb := zload_b (f := zr m) (p := v.toInt.toNat) (v := (m.1 65 (m.1 63 10).toInt.toNat).toInt) (by omega) (by omega)
  refine ⟨by omega, by omega, zs_165 hB (by omega) (by omega) (fun x hx => ?_)⟩
  have s := fb_addI (x := m.1 69 v.toInt.toNat) (y := x) (by omega) (by omega)
  refine ⟨fun g => ⟨by omega, ?_⟩, fun g => hq false (zb_f (fun z => by have := (key.mp z).2.2.2.2; omega))⟩
  have t73 : ¬ (((m.1 67 v.toInt.toNat).toInt = 2 ∨ (m.1 67 v.toInt.toNat).toInt = 5) ∧ (m.1 63 6).toInt < (m.1 63 5).toInt) → wq_166_73 v (m.1 67 v.toInt.toNat) m Q := fun g1 =>
    ⟨fun g2 => hq true (zb_t (key.mpr ⟨hp, hh, g1, fun z => g2 z.1, by omega⟩)), fun g2 => ⟨by omega, fun g3 => hq false (zb_f (fun z => (key.mp z).2.2.2.1 ⟨g2, g3⟩)), fun g3 => hq true (zb_t (key.mpr ⟨hp, hh, g1, fun z => by omega, by omega⟩))⟩⟩
  have t66 : ((m.1 67 v.toInt.toNat).toInt = 2 ∨ (m.1 67 v.toInt.toNat).toInt = 5) → wq_166_66 v (m.1 67 v.toInt.toNat) m Q := fun g1 =>
    zs_164 (fun b5 h5 => (And.intro (fun e5 => hq false (zb_f (fun z => (key.mp z).2.2.1 ⟨g1, Decidable.byContradiction (fun q => by rw [h5.mpr q] at e5; cases e5)⟩))) (fun e5 => t73 (fun z => (h5.mp e5) z.2))))
  exact ⟨fun g => t66 (Or.inl g), fun g => ⟨fun g2 => t73 (fun z => by omega), fun g2 => t66 (Or.inr g2)⟩⟩
theorem zs_167 (hB : zB (zr m)) {a : Int32} (ha : a.toInt ≤ 9) {Q : Bool → zf_Me → Prop} (hq : ∀ b, (b = true ↔ zmay (zr m) a.toInt) → Q b m) : wp_167 a m Q := by
  have b := zB_r hB
  have e1 : (1 : Int32).toInt = 1 := rfl
  have s : (m.1 63 10 - 1).toInt = (m.1 63 10).toInt - 1 := fb_subI (x := m.1 63 10) (y := 1) (by omega) (by omega)
  have st : ¬ (m.1 63 10).toInt = 0 → zr m 1 ((m.1 63 10).toInt - 1).toNat = (m.1 66 (m.1 63 10 - 1).toInt.toNat).toInt := fun z => by
    rw [s]
    exact zN_lt (by omega)
  have k6 : a.toInt = 6 → (zmay (zr m) a.toInt ↔ ((m.1 63 10).toInt < (m.1 63 0).toInt ∧ (m.1 63 6).toInt < (m.1 63 5).toInt) ∧ 1 ≤ (m.1 63 3).toInt) := fun g => ⟨fun z => by
      rcases z with z | z | z | z | z
      · exact z.2
      · omega
      · omega
      · omega
      · omega, fun z => Or.inl ⟨g, z⟩⟩
  have k7 : a.toInt = 7 → (zmay (zr m) a.toInt ↔ ((m.1 63 10).toInt < (m.1 63 0).toInt ∧ (m.1 63 6).toInt < (m.1 63 5).toInt) ∧ 1 ≤ (m.1 63 7).toInt) := fun g => ⟨fun z => by
      rcases z with z | z | z | z | z
      · omega
      · exact z.2
      · omega
      · omega
      · omega, fun z => Or.inr (Or.inl ⟨g, z⟩)⟩
  have k8 : a.toInt = 8 → (zmay (zr m) a.toInt ↔ ((m.1 63 10).toInt < (m.1 63 0).toInt ∧ (m.1 63 6).toInt < (m.1 63 5).toInt) ∧ 1 ≤ (m.1 63 8).toInt) := fun g => ⟨fun z => by
      rcases z with z | z | z | z | z
      · omega
      · omega
      · exact z.2
      · omega
      · omega, fun z => Or.inr (Or.inr (Or.inl ⟨g, z⟩))⟩
  have k9 : a.toInt = 9 → (zmay (zr m) a.toInt ↔ (m.1 63 11).toInt ≤ 900 ∧ ((m.1 63 10).toInt = 0 ∨ zr m 1 ((m.1 63 10).toInt - 1).toNat = 1)) := fun g => ⟨fun z => by
      rcases z with z | z | z | z | z
      · omega
      · omega
      · omega
      · exact z.2
      · omega, fun z => Or.inr (Or.inr (Or.inr (Or.inl ⟨g, z⟩)))⟩
  refine ⟨fun g => ⟨fun n9 => ⟨fun g2 => hq false (zb_f (fun z => ?_)), fun g2 => zs_164 (fun b1 h1 => ⟨fun e => ?_, fun e => hq false (zb_f (fun z => ?_))⟩)⟩, fun y9 => ⟨fun g2 => hq false (zb_f (fun z => by have := ((k9 y9).mp z).1; omega)), fun g2 => ⟨fun g3 => hq true (zb_t ((k9 y9).mpr ⟨g2, Or.inl g3⟩)), fun g3 => ⟨by omega, fun g4 => hq false (zb_f (fun z => ?_)), fun g4 => hq true (zb_t ((k9 y9).mpr ⟨g2, Or.inr ((st g3).trans g4)⟩))⟩⟩⟩⟩, fun g => zs_166 hB (fun b1 h1 => hq b1 (h1.trans ⟨fun z => Or.inr (Or.inr (Or.inr (Or.inr ⟨by omega, by omega, by omega, by omega, z⟩))), fun z => ?_⟩))⟩
  · rcases z with z | z | z | z | z
    · have : (m.1 63 10).toInt < (m.1 63 0).toInt := z.2.1.1; omega
    · have : (m.1 63 10).toInt < (m.1 63 0).toInt := z.2.1.1; omega
    · have : (m.1 63 10).toInt < (m.1 63 0).toInt := z.2.1.1; omega
    · omega
    · have : (m.1 63 10).toInt < (m.1 63 0).toInt := z.2.2.2.2.2.1; omega
  · have aw : (m.1 63 6).toInt < (m.1 63 5).toInt := Decidable.byContradiction (fun z => by rw [h1.mpr z] at e; cases e)
    exact ⟨fun n6 => ⟨fun n7 => ⟨fun g3 => hq false (zb_f (fun z => by have := ((k8 (by omega)).mp z).2; omega)), fun g3 => hq true (zb_t ((k8 (by omega)).mpr ⟨⟨g2, aw⟩, g3⟩))⟩, fun y7 => ⟨fun g3 => hq false (zb_f (fun z => by have := ((k7 y7).mp z).2; omega)), fun g3 => hq true (zb_t ((k7 y7).mpr ⟨⟨g2, aw⟩, g3⟩))⟩⟩, fun y6 => ⟨fun g3 => hq false (zb_f (fun z => by have := ((k6 y6).mp z).2; omega)), fun g3 => hq true (zb_t ((k6 y6).mpr ⟨⟨g2, aw⟩, g3⟩))⟩⟩
  · have na := h1.mp e
    rcases z with z | z | z | z | z
    · exact na z.2.1.2
    · exact na z.2.1.2
    · exact na z.2.1.2
    · omega
    · have := z.2.2.2.2.1; omega
  · rcases ((k9 y9).mp z).2 with q | q
    · exact g3 q
    · rw [st g3] at q
      exact g4 q
  · rcases z with z | z | z | z | z
    · omega
    · omega
    · omega
    · omega
    · exact z.2.2.2.2
theorem zs_170 (hB : zB (zr m)) {Q : Int32 → zf_Me → Prop} (hq : ∀ x : Int32, x.toInt = zgr (zr m) (m.1 63 1).toInt.toNat → Q x m) : wp_170 m Q := by
  have b := zB_r hB
  have e1 : (1 : Int32).toInt = 1 := rfl
  have e0 : (0 : Int32).toInt = 0 := rfl
  have lp : ∀ (n : Nat) (v1 v2 : Int32), 0 ≤ v2.toInt → v2.toInt ≤ (m.1 63 1).toInt → (m.1 63 1).toInt - v2.toInt < n → v1.toInt = zgr (zr m) v2.toInt.toNat → wq_170_4 Q n v1 v2 m := by
    intro n
    induction n with
    | zero => intro v1 v2 h0 h1 h2; omega
    | succ n ih =>
      intro v1 v2 h0 h1 h2 h3
      refine ⟨fun g => hq v1 (by rw [h3, show v2.toInt = (m.1 63 1).toInt by omega]), fun g => ?_⟩
      have s := fb_addI (x := v2) (y := 1) (by omega) (by omega)
      have a4 : zr m 4 v2.toInt.toNat = (m.1 69 v2.toInt.toNat).toInt := zN_lt (by omega)
      have st : zgr (zr m) (v2 + 1).toInt.toNat = if v1.toInt < (m.1 69 v2.toInt.toNat).toInt then (m.1 69 v2.toInt.toNat).toInt else v1.toInt := by
        rw [show (v2 + 1).toInt.toNat = v2.toInt.toNat + 1 by omega]
        show (if _ < _ then _ else _) = _
        rw [a4, h3]
      exact ⟨by omega, fun g2 => ih _ _ (by omega) (by omega) (by omega) (by rw [st, if_neg (by omega)]), fun g2 => ⟨by omega, ih _ _ (by omega) (by omega) (by omega) (by rw [st, if_pos (by omega)])⟩⟩
  exact ⟨7, lp 7 0 0 (by omega) (by omega) (by omega) rfl⟩
end
