/-! part 49: the class's acts -/
section
variable {w y r : Nat} {m : zf_Me}
/-- only these cells' ints may differ, no long -/
def zfr (P : Nat → Prop) (m m' : zf_Me) : Prop := (∀ a, ¬ P a → m'.1 a = m.1 a) ∧ m'.2 = m.2
theorem zfr_refl {P : Nat → Prop} {m : zf_Me} : zfr P m m := ⟨fun _ _ => rfl, rfl⟩
theorem zfr_trans {P : Nat → Prop} {a b c : zf_Me} (h : zfr P a b) (k : zfr P b c) : zfr P a c := ⟨fun i hi => (k.1 i hi).trans (h.1 i hi), k.2.trans h.2⟩
theorem zfr_u {P : Nat → Prop} {m m' : zf_Me} {c k : Nat} {x : Int32} (h : zfr P m m') (hc : P c) : zfr P m (zf_u m' c k x) := ⟨fun i hi => (zf_u1 (fun e => hi (by rw [e]; exact hc))).trans (h.1 i hi), h.2⟩
theorem zfr_mono {P P' : Nat → Prop} {m m' : zf_Me} (h : zfr P m m') (hp : ∀ a, P a → P' a) : zfr P' m m' := ⟨fun a ha => h.1 a (fun z => ha (hp a z)), h.2⟩
theorem zs_118 {k : Int32} {Q : Int32 → zf_Me → Prop} (hq : ∀ x : Int32, x.toInt = (if k.toInt = 3 then 3 else 2) → Q x m) : wp_118 k m Q := by
  unfold wp_118
  refine ⟨fun g => hq _ ?_, fun g => hq _ ?_⟩
  · first | (rw [if_neg g]; rfl) | (rw [if_pos g]; rfl)
  · first | (rw [if_pos g]; rfl) | (rw [if_neg g]; rfl)
theorem zs_59 (hd : zD w y r) (hB : zB3 (zv w y r m)) (hp : 0 ≤ (m.1 y 5).toInt ∧ (m.1 y 5).toInt ≤ 6) {car : Int32} {Q : zf_Me → Prop} (hq : ∀ m', zv w y r m' = zrestO (zv w y r m) car.toInt (m.1 y 5).toInt.toNat → zfr (fun a => a = r) m m' → Q m') : wp_59 w y r car m Q := by
  have e1 : (1 : Int32).toInt = 1 := rfl
  have e0 : (0 : Int32).toInt = 0 := rfl
  have lp : ∀ (n : Nat) (v2 : Int32) (mj : zf_Me), 0 ≤ v2.toInt → v2.toInt ≤ (m.1 y 5).toInt → (m.1 y 5).toInt - v2.toInt < n → zv w y r mj = zrestO (zv w y r m) car.toInt v2.toInt.toNat → zfr (fun a => a = r) m mj → wq_59_2 w y r car Q n v2 mj := by
    intro n
    induction n with
    | zero => intro v2 mj h0 h1 h2; omega
    | succ n ih =>
      intro v2 mj h0 h1 h2 hz hf
      have fy : mj.1 y = m.1 y := hf.1 y (by omega)
      have fw : mj.1 w = m.1 w := hf.1 w (by omega)
      have f3 : mj.1 (y + 3) = m.1 (y + 3) := hf.1 (y + 3) (by omega)
      have s := fb_addI (x := v2) (y := 1) (by omega) (by omega)
      have e2 : (v2 + 1).toInt.toNat = v2.toInt.toNat + 1 := by omega
      unfold wq_59_2
      rw [fy]
      refine ⟨fun g => hq mj (by rw [hz, show v2.toInt = (m.1 y 5).toInt by omega]) hf, fun g => ⟨fun g2 => ih _ mj (by omega) (by omega) (by omega) ?_ hf, fun g2 => ⟨⟨by omega, by omega⟩, zs_118 (fun x hx => ?_)⟩⟩⟩
      · rw [hz, e2, zrestO_skip (by omega)]
      · have b3 := hB v2.toInt.toNat (by omega)
        have a4 : (mj.1 r v2.toInt.toNat).toInt = zv w y r m 4 v2.toInt.toNat := by
          have z : zv w y r mj 4 v2.toInt.toNat = (mj.1 r v2.toInt.toNat).toInt := zN_lt (by omega)
          rw [← z, hz, zrestO_ge (by omega)]
        have a2 : (m.1 (y + 3) v2.toInt.toNat).toInt = zv w y r m 2 v2.toInt.toNat := (zN_lt (by omega)).symm
        have a7 : (m.1 w 2).toInt = zv w y r m 5 7 := rfl
        rw [f3, a2] at hx
        have fin : ∀ u0 : Int32, u0.toInt = (if zv w y r m 5 7 = (v2.toInt.toNat : Int) then 1 else 0) → wq_59_43 w y r car (wq_59_2 w y r car Q n) v2 u0 x mj Q := by
          intro u0 hu
          refine ⟨⟨by omega, by omega⟩, ⟨by omega, by omega⟩, fun m3 e3 => ih _ m3 (by omega) (by omega) (by omega) ?_ ?_⟩
          · rw [e3, zv_a4 hd (by omega), hz, e2, zrestO_go (by omega)]
            congr 1
            have xb : 0 ≤ x.toInt ∧ x.toInt ≤ 3 := by rw [hx]; split <;> omega
            have ub : 0 ≤ u0.toInt ∧ u0.toInt ≤ 1 := by rw [hu]; split <;> omega
            have s2 := fb_subI (x := x) (y := u0) (by omega) (by omega)
            have s3 := fb_subI (x := mj.1 r v2.toInt.toNat) (y := x - u0) (by omega) (by omega)
            rw [zi_max, s3, s2, a4, hx, hu, e0]
          · rw [e3]
            exact zfr_u hf rfl
        rw [fw]
        exact ⟨fun g3 => fin 0 (by rw [← a7, if_neg (by omega)]; rfl), fun g3 => fin 1 (by rw [← a7, if_pos (by omega)]; rfl)⟩
  exact ⟨7, lp 7 0 m (by omega) (by omega) (by omega) zrestO_0.symm zfr_refl⟩
abbrev zfw (w r : Nat) (m m' : zf_Me) : Prop := zfr (fun a => a = w ∨ a = r) m m'
theorem zB3_u5 {f : zS} {k : Nat} {x : Int} (h : zB3 f) : zB3 (zU f 5 k x) := by
  intro j hj
  have := h j hj
  rw [zU_o (by omega), zU_o (by omega), zU_o (by omega)]
  exact this
/-- what walking asks: bounds and a furlong ahead -/
theorem zs_57 (hd : zD w y r) (h2 : zB2 (zv w y r m)) (h3 : zB3 (zv w y r m)) (hb : 0 ≤ (m.1 y 5).toInt ∧ (m.1 y 5).toInt ≤ 6 ∧ 0 ≤ (m.1 w 10).toInt ∧ (m.1 w 10).toInt < 24 ∧ 0 ≤ (m.1 w 11).toInt ∧ (m.1 w 11).toInt ≤ 2000 ∧ 0 ≤ (m.1 w 4).toInt ∧ (m.1 w 4).toInt ≤ 20) {Q : zf_Me → Prop} (hq : ∀ m', zv w y r m' = zwalkd (zv w y r m) → zfw w r m m' → Q m') : wp_57 w y r m Q := by
  have e1 : (1 : Int32).toInt = 1 := rfl
  have e0 : (0 : Int32).toInt = 0 := rfl
  have e9 : (9 : Int32).toInt = 9 := rfl
  have en : (-1 : Int32).toInt = -1 := rfl
  intro m1 q1 m3 q3
  have z1 : zv w y r m1 = zU (zv w y r m) 5 8 ((m.1 w 4).toInt - 1) := by
    rw [q1, zv_w4 hd, fb_subI (by omega) (by omega), e1]
  have z3 : zv w y r m3 = zU (zU (zv w y r m) 5 8 ((m.1 w 4).toInt - 1)) 5 9 0 := by
    rw [q3, zv_w6 hd, z1, e0]
  have f3 : zfw w r m m3 := by
    rw [q3, q1]
    exact zfr_u (zfr_u zfr_refl (Or.inl rfl)) (Or.inl rfl)
  have c10 : (m3.1 w 10).toInt = (m.1 w 10).toInt := by
    show zv w y r m3 5 10 = _
    rw [z3]
    rfl
  have c11 : (m3.1 w 11).toInt = (m.1 w 11).toInt := by
    show zv w y r m3 5 11 = _
    rw [z3]
    rfl
  have fy1 : m3.1 (y + 1) = m.1 (y + 1) := f3.1 (y + 1) (by omega)
  have sl : zslope (zv w y r m) = (m.1 (y + 1) (m.1 w 10).toInt.toNat).toInt := zN_lt (k := (m.1 w 10).toInt.toNat) (by omega)
  have b2 := (h2 (m.1 w 10).toInt.toNat (by omega))
  have b2' : zv w y r m 0 (m.1 w 10).toInt.toNat = (m.1 (y + 1) (m.1 w 10).toInt.toNat).toInt := zN_lt (by omega)
  rw [b2'] at b2
  refine ⟨⟨by omega, by omega⟩, fun m5 q5 => ?_⟩
  have s1 := fb_addI (x := 9) (y := m.1 (y + 1) (m.1 w 10).toInt.toNat) (by omega) (by omega)
  have z5 : zv w y r m5 = zU (zU (zU (zv w y r m) 5 8 ((m.1 w 4).toInt - 1)) 5 9 0) 5 11 ((m.1 w 11).toInt + (9 + zslope (zv w y r m))) := by
    rw [q5, zv_w11 hd, z3, c10, fy1, fb_addI (by omega) (by omega), s1, c11, sl, e9]
  have f5 : zfw w r m m5 := by
    rw [q5]
    exact zfr_u f3 (Or.inl rfl)
  have fy5 : m5.1 y = m.1 y := f5.1 y (by omega)
  have b3 : zB3 (zv w y r m5) := by
    rw [z5]
    exact zB3_u5 (zB3_u5 (zB3_u5 h3))
  refine zs_59 hd b3 (by rw [fy5]; omega) (fun m8 z8 f8 m9 q9 => hq m9 ?_ ?_)
  · have c8 : (m8.1 w 10).toInt = (m.1 w 10).toInt := by
      have : m8.1 w = m5.1 w := f8.1 w (by omega)
      rw [this]
      show zv w y r m5 5 10 = _
      rw [z5]
      rfl
    rw [q9, zv_w10 hd, z8, z5, fy5, fb_addI (by omega) (by omega), c8, e1, en]
    rfl
  · rw [q9]
    exact zfr_u (zfr_trans f5 (zfr_mono f8 (fun a ha => Or.inr ha))) (Or.inl rfl)
theorem zs_60 (hd : zD w y r) (h3 : zB3 (zv w y r m)) (hb : 0 ≤ (m.1 y 5).toInt ∧ (m.1 y 5).toInt ≤ 6 ∧ 0 ≤ (m.1 w 11).toInt ∧ (m.1 w 11).toInt ≤ 2000) {Q : zf_Me → Prop} (hq : ∀ m', zv w y r m' = zresta (zv w y r m) → zfw w r m m' → Q m') : wp_60 w y r m Q := by
  have e1 : (1 : Int32).toInt = 1 := rfl
  have e0 : (0 : Int32).toInt = 0 := rfl
  have e6 : (6 : Int32).toInt = 6 := rfl
  have e10 : (10 : Int32).toInt = 10 := rfl
  intro m1 q1 m3 q3 m5 q5
  have z1 : zv w y r m1 = zU (zv w y r m) 5 11 ((m.1 w 11).toInt + 10) := by
    rw [q1, zv_w11 hd, fb_addI (by omega) (by omega), e10]
  have z3 : zv w y r m3 = zU (zU (zv w y r m) 5 11 ((m.1 w 11).toInt + 10)) 5 9 0 := by
    rw [q3, zv_w6 hd, z1, e0]
  have c3 : (m3.1 w 3).toInt = (m.1 w 3).toInt := by
    show zv w y r m3 5 0 = _
    rw [z3]
    rfl
  have c4 : (m3.1 w 4).toInt = (m.1 w 4).toInt := by
    show zv w y r m3 5 8 = _
    rw [z3]
    rfl
  have z5 : zv w y r m5 = zU (zU (zU (zv w y r m) 5 11 ((m.1 w 11).toInt + 10)) 5 9 0) 5 8 (if (m.1 w 4).toInt < (m.1 w 3).toInt then (m.1 w 3).toInt else (m.1 w 4).toInt) := by
    rw [q5, zv_w4 hd, z3, zi_max, c3, c4]
  have f5 : zfw w r m m5 := by
    rw [q5, q3, q1]
    exact zfr_u (zfr_u (zfr_u zfr_refl (Or.inl rfl)) (Or.inl rfl)) (Or.inl rfl)
  have b3 : zB3 (zv w y r m5) := by
    rw [z5]
    exact zB3_u5 (zB3_u5 (zB3_u5 h3))
  have fy5 : m5.1 y = m.1 y := f5.1 y (by omega)
  have lp : ∀ (n : Nat) (v : Int32) (mj : zf_Me), 0 ≤ v.toInt → v.toInt ≤ (m.1 y 5).toInt → (m.1 y 5).toInt - v.toInt < n → zv w y r mj = zrestA (zv w y r m5) v.toInt.toNat → zfr (fun a => a = r) m5 mj → wq_60_33 w y r Q n v mj := by
    intro n
    induction n with
    | zero => intro v mj h0 h1 h2; omega
    | succ n ih =>
      intro v mj h0 h1 h2 hz hf
      have fy : mj.1 y = m.1 y := (hf.1 y (by omega)).trans fy5
      have s := fb_addI (x := v) (y := 1) (by omega) (by omega)
      have e2 : (v + 1).toInt.toNat = v.toInt.toNat + 1 := by omega
      unfold wq_60_33
      rw [fy]
      refine ⟨fun g => hq mj ?_ (zfr_trans f5 (zfr_mono hf (fun a ha => Or.inr ha))), fun g => ⟨⟨by omega, by omega⟩, ⟨by omega, by omega⟩, fun m7 q7 => ih _ m7 (by omega) (by omega) (by omega) ?_ (by rw [q7]; exact zfr_u hf rfl)⟩⟩
      · rw [hz, z5, show v.toInt = (m.1 y 5).toInt by omega]
        rfl
      · have b := b3 v.toInt.toNat (by omega)
        have a4 : (mj.1 r v.toInt.toNat).toInt = zv w y r m5 4 v.toInt.toNat := by
          have z : zv w y r mj 4 v.toInt.toNat = (mj.1 r v.toInt.toNat).toInt := zN_lt (by omega)
          rw [← z, hz]
          exact if_neg (fun z => by omega)
        have s3 := fb_subI (x := mj.1 r v.toInt.toNat) (y := 6) (by omega) (by omega)
        rw [q7, zv_a4 hd (by omega), hz, e2, zrestA_go, zi_max, s3, a4, e0, e6]
  exact ⟨7, lp 7 0 m5 (by omega) (by omega) (by omega) zrestA_0.symm zfr_refl⟩
end
