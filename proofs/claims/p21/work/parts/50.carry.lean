/-! part 50: the class's acts, on; bounds behind an act -/
theorem zf_divG {x y : Int32} (h : 0 ≤ x.toInt) (hy : 0 < y.toInt) : (x / y).toInt = x.toInt / y.toInt := by
  rw [Int32.toInt_div, Int.tdiv_eq_ediv_of_nonneg h]
  have := fb_rng x
  have h1 := Int.ediv_nonneg h (show 0 ≤ y.toInt by omega)
  have h2 := Int.ediv_le_self y.toInt h
  exact fb_bmod (by omega) (by omega)
theorem zf_remG {x y : Int32} (h : 0 ≤ x.toInt) (hy : 0 < y.toInt) : (x - x / y * y).toInt = x.toInt % y.toInt := by
  have hd := zf_divG h hy
  have := fb_rng x
  have h3 : x.toInt / y.toInt * y.toInt ≤ x.toInt := Int.ediv_mul_le _ (by omega)
  have h4 : 0 ≤ x.toInt / y.toInt * y.toInt := Int.mul_nonneg (Int.ediv_nonneg h (by omega)) (by omega)
  have hm := fb_mulI (x := x / y) (y := y) (by rw [hd]; omega) (by rw [hd]; omega)
  rw [fb_subI (by rw [hm, hd]; omega) (by rw [hm, hd]; omega), hm, hd, Int.emod_def, Int.mul_comm]
theorem zcar2_o {f : zS} {c k : Nat} (h : ¬ (c = 5 ∧ k = 8)) : zcar2 f c k = f c k := by
  unfold zcar2
  split
  · exact zU_o h
  · rfl
theorem zB3_u4 {f : zS} {k : Nat} {x : Int} (h : zB3 f) (hx : 0 ≤ x ∧ x ≤ 99) : zB3 (zU f 4 k x) := by
  intro j hj
  have := h j hj
  rw [zU_o (by omega), zU_o (by omega)]
  by_cases e : j = k
  · subst e
    rw [zU_s]
    omega
  · rw [zU_o (by omega)]
    exact this
theorem zB3_c2 {f : zS} (h : zB3 f) : zB3 (zcar2 f) := by
  unfold zcar2
  split
  · exact zB3_u5 h
  · exact h
section
variable {w y r : Nat} {m : zf_Me}
theorem zs_58 (hd : zD w y r) (hB : zB (zv w y r m)) {p : Int32} (hc : zcarryOk (zv w y r m) p.toInt) {Q : zf_Me → Prop} (hq : ∀ m', zv w y r m' = zcarry (zv w y r m) p.toInt.toNat → zfw w r m m' → Q m') : wp_58 w y r p m Q := by
  have e0 : (0 : Int32).toInt = 0 := rfl
  have e1 : (1 : Int32).toInt = 1 := rfl
  have e2 : (2 : Int32).toInt = 2 := rfl
  have e3 : (3 : Int32).toInt = 3 := rfl
  have e6 : (6 : Int32).toInt = 6 := rfl
  have b := zB_v hB
  have hp : 0 ≤ p.toInt ∧ p.toInt < (m.1 y 5).toInt := hc.1
  have hh : (m.1 w 10).toInt < (m.1 y 4).toInt := hc.2.1
  have hl : zv w y r m 4 p.toInt.toNat + zload (zv w y r m) p.toInt.toNat (zslope (zv w y r m)) ≤ (m.1 w 9).toInt := hc.2.2.2.2
  have sl : zslope (zv w y r m) = (m.1 (y + 1) (m.1 w 10).toInt.toNat).toInt := zN_lt (k := (m.1 w 10).toInt.toNat) (by omega)
  have b2 := zB_v2 hB (k := (m.1 w 10).toInt.toNat) (by omega)
  have b3 := zB_v3 hB (k := p.toInt.toNat) (by omega)
  have a4 : zv w y r m 4 p.toInt.toNat = (m.1 r p.toInt.toNat).toInt := zN_lt (by omega)
  have lb := zload_b (f := zv w y r m) (p := p.toInt.toNat) (v := zslope (zv w y r m)) (by omega) (by omega)
  refine ⟨⟨by omega, by omega⟩, ⟨by omega, by omega⟩, zs_51 hB (by omega) (by omega) (fun x hx => ⟨⟨by omega, by omega⟩, fun m3 q3 m5 q5 => ?_⟩)⟩
  rw [← sl] at hx
  have z3 : zv w y r m3 = zU (zv w y r m) 4 p.toInt.toNat (zv w y r m 4 p.toInt.toNat + zload (zv w y r m) p.toInt.toNat (zslope (zv w y r m))) := by
    rw [q3, zv_a4 hd (by omega), fb_addI (by omega) (by omega), hx, a4]
  have c9 : (m3.1 w 6).toInt = (m.1 w 6).toInt := by
    show zv w y r m3 5 9 = _
    rw [z3]
    rfl
  have z5 : zv w y r m5 = zcar1 (zv w y r m) p.toInt.toNat := by
    rw [q5, zv_w6 hd, z3, fb_addI (by omega) (by omega), c9, e1]
    rfl
  have f5 : zfw w r m m5 := by
    rw [q5, q3]
    exact zfr_u (zfr_u zfr_refl (Or.inr rfl)) (Or.inl rfl)
  have t68 : ∀ m', zv w y r m' = zcar2 (zcar1 (zv w y r m) p.toInt.toNat) → zfw w r m m' → wq_58_68 w y r p (m.1 (y + 1) (m.1 w 10).toInt.toNat) m' Q := by
    intro m' z' f'
    have c9 : (m'.1 w 6).toInt = (m.1 w 6).toInt + 1 := by
      show zv w y r m' 5 9 = _
      rw [z', zcar2_o (by decide)]
      rfl
    have c11 : (m'.1 w 11).toInt = (m.1 w 11).toInt := by
      show zv w y r m' 5 11 = _
      rw [z', zcar2_o (by decide)]
      rfl
    have t91 : ∀ u0 : Int32, u0.toInt = (if (m'.1 w 6).toInt = 1 then 1 else 0) → wq_58_91 w y r p u0 (6 + (m.1 (y + 1) (m.1 w 10).toInt.toNat)) 3 (m'.1 w 11) m' Q := by
      intro u0 hu m7 q7
      have ub : 0 ≤ u0.toInt ∧ u0.toInt ≤ 1 := by rw [hu]; split <;> omega
      have s1 := fb_addI (x := 6) (y := m.1 (y + 1) (m.1 w 10).toInt.toNat) (by omega) (by omega)
      have s2 := fb_addI (x := 6 + m.1 (y + 1) (m.1 w 10).toInt.toNat) (y := u0) (by omega) (by omega)
      have s3 := zi_max (x := 3) (y := 6 + m.1 (y + 1) (m.1 w 10).toInt.toNat + u0)
      have s4 := fb_addI (x := m'.1 w 11) (y := if 3 < 6 + m.1 (y + 1) (m.1 w 10).toInt.toNat + u0 then 6 + m.1 (y + 1) (m.1 w 10).toInt.toNat + u0 else 3) (by rw [s3]; split <;> omega) (by rw [s3]; split <;> omega)
      have z7 : zv w y r m7 = zcar3 (zcar2 (zcar1 (zv w y r m) p.toInt.toNat)) (zslope (zv w y r m)) := by
        rw [q7, zv_w11 hd, s4, s3, s2, s1, e3, e6, hu, z', sl]
        unfold zcar3
        rw [← z']
        rfl
      have f7 : zfw w r m m7 := by
        rw [q7]
        exact zfr_u f' (Or.inl rfl)
      have fy : m7.1 y = m.1 y := f7.1 y (by omega)
      have h3 : zB3 (zv w y r m7) := by
        rw [z7]
        exact zB3_u5 (zB3_c2 (zB3_u5 (zB3_u4 hB.2.2 (by omega))))
      refine zs_59 hd h3 (by rw [fy]; omega) (fun m10 z10 f10 m11 q11 => hq m11 ?_ ?_)
      · have c10 : (m10.1 w 10).toInt = (m.1 w 10).toInt := by
          have : m10.1 w = m7.1 w := f10.1 w (by omega)
          rw [this]
          show zv w y r m7 5 10 = _
          rw [z7]
          show zcar2 _ 5 10 = _
          rw [zcar2_o (by decide)]
          rfl
        rw [q11, zv_w10 hd, z10, z7, fy, fb_addI (by omega) (by omega), c10, e1]
        unfold zcarry
        rw [show ((p.toInt.toNat : Nat) : Int) = p.toInt by omega]
        rfl
      · rw [q11]
        exact zfr_u (zfr_trans f7 (zfr_mono f10 (fun a ha => Or.inr ha))) (Or.inl rfl)
    exact ⟨fun g => t91 0 (by rw [if_neg g]; rfl), fun g => t91 1 (by rw [if_pos g]; rfl)⟩
  have d9 : (m5.1 w 6).toInt = zcar1 (zv w y r m) p.toInt.toNat 5 9 := by
    rw [← z5]
    rfl
  have d9' : zcar1 (zv w y r m) p.toInt.toNat 5 9 = (m.1 w 6).toInt + 1 := rfl
  have d8 : (m5.1 w 4).toInt = zcar1 (zv w y r m) p.toInt.toNat 5 8 := by
    rw [← z5]
    rfl
  have d8' : zcar1 (zv w y r m) p.toInt.toNat 5 8 = (m.1 w 4).toInt := rfl
  have d0 : (m5.1 w 3).toInt = zcar1 (zv w y r m) p.toInt.toNat 5 0 := by
    rw [← z5]
    rfl
  have rm := zf_remG (x := m5.1 w 6) (y := 2) (by omega) (by decide)
  rw [e2] at rm
  refine ⟨fun g => t68 m5 ?_ f5, fun g => ⟨fun g2 => t68 m5 ?_ f5, fun g2 m13 q13 => t68 m13 ?_ ?_⟩⟩
  · rw [z5]
    unfold zcar2
    rw [if_neg (fun z => g (by rw [rm, d9]; exact z.1))]
  · rw [z5]
    unfold zcar2
    rw [if_neg (fun z => by have := z.2; omega)]
  · rw [q13, zv_w4 hd, z5]
    unfold zcar2
    rw [if_pos ⟨by rw [← d9, ← rm]; exact g, by omega⟩, fb_addI (by omega) (by omega), d8, e1]
  · rw [q13]
    exact zfr_u f5 (Or.inl rfl)
theorem zB2_u5 {f : zS} {k : Nat} {x : Int} (h : zB2 f) : zB2 (zU f 5 k x) := by
  intro j hj
  have := h j hj
  rw [zU_o (by omega), zU_o (by omega)]
  exact this
/-- an act that may be, come to pass on a walk of the class -/
theorem zs_56 (hd : zD w y r) (hB : zB (zv w y r m)) {a : Int32} (ha : zmay (zv w y r m) a.toInt) {Q : zf_Me → Prop} (hq : ∀ m', zv w y r m' = zact (zv w y r m) a.toInt → zfw w r m m' → Q m') : wp_56 w y r a m Q := by
  have e1 : (1 : Int32).toInt = 1 := rfl
  have e2 : (2 : Int32).toInt = 2 := rfl
  have b := zB_v hB
  refine ⟨fun g => ?_, fun g => ?_, fun g m5 q5 m7 q7 => ?_, fun g m11 q11 m13 q13 => ?_, fun g => ?_⟩
  · rcases ha with z | z | z | z | z
    · omega
    · omega
    · omega
    · omega
    · refine zs_58 hd hB z.2.2.2.2 (fun m' z' f' => hq m' ?_ f')
      rw [z']
      unfold zact
      rw [if_neg (by omega), if_neg (by omega), if_neg (by omega), if_neg (by omega)]
  · rcases ha with z | z | z | z | z
    · have hw : (m.1 w 10).toInt < (m.1 y 4).toInt := z.2.1.1
      have hl : 1 ≤ (m.1 w 4).toInt := z.2.2
      refine zs_57 hd hB.2.1 hB.2.2 (by omega) (fun m' z' f' => hq m' ?_ f')
      rw [z']
      unfold zact
      rw [if_pos g]
    · omega
    · omega
    · omega
    · omega
  · rcases ha with z | z | z | z | z
    · omega
    · have hw : (m.1 w 10).toInt < (m.1 y 4).toInt := z.2.1.1
      have z5 : zv w y r m5 = zU (zv w y r m) 5 3 ((m.1 w 7).toInt - 1) := by
        rw [q5, zv_w7 hd, fb_subI (by omega) (by omega), e1]
      have c3 : (m5.1 w 3).toInt = (m.1 w 3).toInt := by
        show zv w y r m5 5 0 = _
        rw [z5]
        rfl
      have c4 : (m5.1 w 4).toInt = (m.1 w 4).toInt := by
        show zv w y r m5 5 8 = _
        rw [z5]
        rfl
      have s1 := fb_addI (x := m5.1 w 3) (y := 2) (by omega) (by omega)
      have s2 := fb_addI (x := m5.1 w 4) (y := 2) (by omega) (by omega)
      have z7 : zv w y r m7 = zU (zU (zv w y r m) 5 3 ((m.1 w 7).toInt - 1)) 5 8 (if (m.1 w 3).toInt + 2 < (m.1 w 4).toInt + 2 then (m.1 w 3).toInt + 2 else (m.1 w 4).toInt + 2) := by
        rw [q7, zv_w4 hd, z5, zi_min, s1, s2, c3, c4, e2]
      have f7 : zfw w r m m7 := by
        rw [q7, q5]
        exact zfr_u (zfr_u zfr_refl (Or.inl rfl)) (Or.inl rfl)
      have fy : m7.1 y = m.1 y := f7.1 y (by omega)
      have k10 : (m7.1 w 10).toInt = (m.1 w 10).toInt := by
        show zv w y r m7 5 10 = _
        rw [z7]
        rfl
      have k11 : (m7.1 w 11).toInt = (m.1 w 11).toInt := by
        show zv w y r m7 5 11 = _
        rw [z7]
        rfl
      have k8 : (m7.1 w 4).toInt = (if (m.1 w 3).toInt + 2 < (m.1 w 4).toInt + 2 then (m.1 w 3).toInt + 2 else (m.1 w 4).toInt + 2) := by
        show zv w y r m7 5 8 = _
        rw [z7]
        rfl
      have k8b : 0 ≤ (m7.1 w 4).toInt ∧ (m7.1 w 4).toInt ≤ 20 := by rw [k8]; split <;> omega
      refine zs_57 hd (by rw [z7]; exact zB2_u5 (zB2_u5 hB.2.1)) (by rw [z7]; exact zB3_u5 (zB3_u5 hB.2.2)) (by rw [fy]; omega) (fun m' z' f' => hq m' ?_ (zfr_trans f7 f'))
      rw [z', z7]
      unfold zact
      rw [if_neg (c := a.toInt = 6) (by omega), if_pos (c := a.toInt = 7) g]
      rfl
    · omega
    · omega
    · omega
  · rcases ha with z | z | z | z | z
    · omega
    · omega
    · have hw : (m.1 w 10).toInt < (m.1 y 4).toInt := z.2.1.1
      have z5 : zv w y r m11 = zU (zv w y r m) 5 4 ((m.1 w 8).toInt - 1) := by
        rw [q11, zv_w8 hd, fb_subI (by omega) (by omega), e1]
      have c3 : (m11.1 w 3).toInt = (m.1 w 3).toInt := by
        show zv w y r m11 5 0 = _
        rw [z5]
        rfl
      have c4 : (m11.1 w 4).toInt = (m.1 w 4).toInt := by
        show zv w y r m11 5 8 = _
        rw [z5]
        rfl
      have s1 := fb_addI (x := m11.1 w 3) (y := 2) (by omega) (by omega)
      have s2 := fb_addI (x := m11.1 w 4) (y := 1) (by omega) (by omega)
      have z7 : zv w y r m13 = zU (zU (zv w y r m) 5 4 ((m.1 w 8).toInt - 1)) 5 8 (if (m.1 w 3).toInt + 2 < (m.1 w 4).toInt + 1 then (m.1 w 3).toInt + 2 else (m.1 w 4).toInt + 1) := by
        rw [q13, zv_w4 hd, z5, zi_min, s1, s2, c3, c4, e2, e1]
      have f7 : zfw w r m m13 := by
        rw [q13, q11]
        exact zfr_u (zfr_u zfr_refl (Or.inl rfl)) (Or.inl rfl)
      have fy : m13.1 y = m.1 y := f7.1 y (by omega)
      have k10 : (m13.1 w 10).toInt = (m.1 w 10).toInt := by
        show zv w y r m13 5 10 = _
        rw [z7]
        rfl
      have k11 : (m13.1 w 11).toInt = (m.1 w 11).toInt := by
        show zv w y r m13 5 11 = _
        rw [z7]
        rfl
      have k8 : (m13.1 w 4).toInt = (if (m.1 w 3).toInt + 2 < (m.1 w 4).toInt + 1 then (m.1 w 3).toInt + 2 else (m.1 w 4).toInt + 1) := by
        show zv w y r m13 5 8 = _
        rw [z7]
        rfl
      have k8b : 0 ≤ (m13.1 w 4).toInt ∧ (m13.1 w 4).toInt ≤ 20 := by rw [k8]; split <;> omega
      refine zs_57 hd (by rw [z7]; exact zB2_u5 (zB2_u5 hB.2.1)) (by rw [z7]; exact zB3_u5 (zB3_u5 hB.2.2)) (by rw [fy]; omega) (fun m' z' f' => hq m' ?_ (zfr_trans f7 f'))
      rw [z', z7]
      unfold zact
      rw [if_neg (c := a.toInt = 6) (by omega), if_neg (c := a.toInt = 7) (by omega), if_pos (c := a.toInt = 8) g]
      rfl
    · omega
    · omega
  · rcases ha with z | z | z | z | z
    · omega
    · omega
    · omega
    · have hr : (m.1 w 11).toInt ≤ 900 := z.2.1
      refine zs_60 hd hB.2.2 (by omega) (fun m' z' f' => hq m' ?_ f')
      rw [z']
      unfold zact
      rw [if_neg (by omega), if_neg (by omega), if_neg (by omega), if_pos g]
    · omega
end
