/-! part 62: the reference's acts -/
theorem zrestA_u5 {f : zS} {n k : Nat} {x : Int} : zU (zrestA f n) 5 k x = zrestA (zU f 5 k x) n := by
  funext c j
  by_cases e : c = 5 ∧ j = k
  · obtain ⟨rfl, rfl⟩ := e
    rw [zU_s, zrestA_n (by decide), zU_s]
  · rw [zU_o e]
    show (if c = 4 ∧ j < n then (if 0 < f 4 j - 6 then f 4 j - 6 else 0) else f c j) = (if c = 4 ∧ j < n then (if 0 < zU f 5 k x 4 j - 6 then zU f 5 k x 4 j - 6 else 0) else zU f 5 k x c j)
    rw [zU_o e, zU_o (a := 4) (by omega)]
theorem zrestO_car {f : zS} {car : Int} {n : Nat} (h : ∀ k : Nat, k < n → ¬ (k : Int) = car) : zrestO f car n = zrestO f (-1) n := by
  funext c k
  unfold zrestO
  by_cases g : c = 4 ∧ k < n
  · rw [if_pos ⟨g.1, g.2, h k g.2⟩, if_pos ⟨g.1, g.2, by omega⟩]
  · rw [if_neg (fun z => g ⟨z.1, z.2.1⟩), if_neg (fun z => g ⟨z.1, z.2.1⟩)]
section
variable {m : zf_Me}
theorem zs_168 {p y : Int32} (hp : 0 ≤ p.toInt ∧ p.toInt < 6) (ht : 0 ≤ (m.1 69 p.toInt.toNat).toInt ∧ (m.1 69 p.toInt.toNat).toInt ≤ 1000) (hy : -1000 ≤ y.toInt ∧ y.toInt ≤ 1000) {Q : zf_Me → Prop} (hq : ∀ m', zr m' = zU (zr m) 4 p.toInt.toNat (if 0 < zr m 4 p.toInt.toNat - y.toInt then zr m 4 p.toInt.toNat - y.toInt else 0) → zgc m m' → Q m') : wp_168 p y m Q := by
  have a4 : zr m 4 p.toInt.toNat = (m.1 69 p.toInt.toNat).toInt := zN_lt (by omega)
  have e0 : (0 : Int32).toInt = 0 := rfl
  refine ⟨hp, fun g => ⟨hp, fun m1 q1 => hq m1 ?_ ?_⟩, fun g => ⟨hp, hp, fun m3 q3 => hq m3 ?_ ?_⟩⟩
  · rw [q1, zr_a4 (by omega), a4, if_neg (by omega), e0]
  · rw [q1]; exact zgr_u zgr_refl (by omega)
  · rw [q3, zr_a4 (by omega), a4, if_pos (by omega), fb_subI (by omega) (by omega)]
  · rw [q3]; exact zgr_u zgr_refl (by omega)
theorem zs_169l {a : Int32} (h3 : zB3 (zr m)) (hp : 0 ≤ (m.1 63 1).toInt ∧ (m.1 63 1).toInt ≤ 6) (hh : 0 ≤ (m.1 63 10).toInt ∧ (m.1 63 10).toInt ≤ 100) {Q : zf_Me → Prop} (hq : ∀ m', zr m' = zU (zrestO (zr m) a.toInt (m.1 63 1).toInt.toNat) 5 10 ((m.1 63 10).toInt + 1) → zgc m m' → Q m') : ∃ n300, wq_169_300 a Q n300 0 m := by
  have e1 : (1 : Int32).toInt = 1 := rfl
  have e0 : (0 : Int32).toInt = 0 := rfl
  have e2 : (2 : Int32).toInt = 2 := rfl
  have e3 : (3 : Int32).toInt = 3 := rfl
  have lp : ∀ (n : Nat) (v : Int32) (mj : zf_Me), 0 ≤ v.toInt → v.toInt ≤ (m.1 63 1).toInt → (m.1 63 1).toInt - v.toInt < n → zr mj = zrestO (zr m) a.toInt v.toInt.toNat → zgc m mj → wq_169_300 a Q n v mj := by
    intro n
    induction n with
    | zero => intro v mj h0 h1 h2; omega
    | succ n ih =>
      intro v mj h0 h1 h2 hz hf
      have s := fb_addI (x := v) (y := 1) (by omega) (by omega)
      have en : v.toInt < (m.1 63 1).toInt → (v + 1).toInt.toNat = v.toInt.toNat + 1 := fun _ => by omega
      have c1 : (mj.1 63 1).toInt = (m.1 63 1).toInt := by
        show zr mj 5 6 = _
        rw [hz, zrestO_n (by decide)]
        rfl
      have c2 : (mj.1 63 2).toInt = zr m 5 7 := by
        show zr mj 5 7 = _
        rw [hz, zrestO_n (by decide)]
      have c10 : (mj.1 63 10).toInt = (m.1 63 10).toInt := by
        show zr mj 5 10 = _
        rw [hz, zrestO_n (by decide)]
        rfl
      refine ⟨fun g m7 q7 => hq m7 ?_ (by rw [q7]; exact zgr_u hf (by omega)), fun g => ⟨fun g2 => ⟨by omega, ?_⟩, fun g2 => ih _ mj (by omega) (by omega) (by omega) ?_ hf⟩⟩
      · rw [q7, zr_w10, hz, fb_addI (by omega) (by omega), c10, e1, show v.toInt = (m.1 63 1).toInt by omega]
      · have b3 := h3 v.toInt.toNat (by omega)
        have a4 : zr mj 4 v.toInt.toNat = zr m 4 v.toInt.toNat := by rw [hz, zrestO_ge (by omega)]
        have a4' : zr mj 4 v.toInt.toNat = (mj.1 69 v.toInt.toNat).toInt := zN_lt (by omega)
        have a2 : (mj.1 67 v.toInt.toNat).toInt = zr m 2 v.toInt.toNat := by
          have z : zr mj 2 v.toInt.toNat = (mj.1 67 v.toInt.toNat).toInt := zN_lt (by omega)
          rw [← z, hz, zrestO_n (by decide)]
        have st : ∀ y : Int32, y.toInt = (if zr m 2 v.toInt.toNat = 3 then 3 else 2) - (if zr m 5 7 = (v.toInt.toNat : Int) then 1 else 0) → wp_168 v y mj (fun m10 => wq_169_300 a Q n (v + 1) m10) := by
          intro y hy
          have yb : -1 ≤ y.toInt ∧ y.toInt ≤ 3 := by rw [hy]; split <;> split <;> omega
          refine zs_168 (by omega) (by omega) (by omega) (fun m' z' f' => ih _ m' (by omega) (by omega) (by omega) ?_ (zgr_trans hf f'))
          rw [z', hz, en (by omega), zrestO_go (by omega), zrestO_ge (by omega), hy]
        have fin : ∀ u : Int32, u.toInt = (if zr m 2 v.toInt.toNat = 3 then 3 else 2) → wq_169_337 a (wq_169_300 a Q n) v u v mj Q := by
          intro u hu
          have ub : 2 ≤ u.toInt ∧ u.toInt ≤ 3 := by rw [hu]; split <;> omega
          refine ⟨fun g3 => st _ ?_, fun g3 => st _ ?_⟩
          · rw [fb_subI (by omega) (by omega), e0, hu, if_neg (c := zr m 5 7 = _) (by omega)]
          · rw [fb_subI (by omega) (by omega), e1, hu, if_pos (c := zr m 5 7 = _) (by omega)]
        exact ⟨fun g3 => fin 2 (by rw [if_neg (by rw [← a2]; exact g3)]; rfl), fun g3 => fin 3 (by rw [if_pos (by rw [← a2]; exact g3)]; rfl)⟩
      · rw [hz, en (by omega), zrestO_skip (by omega)]
  exact ⟨7, lp 7 0 m (by omega) (by omega) (by omega) zrestO_0.symm zgr_refl⟩
theorem zs_278 {a v : Int32} (h3 : zB3 (zr m)) (hp : 0 ≤ (m.1 63 1).toInt ∧ (m.1 63 1).toInt ≤ 6) (hh : 0 ≤ (m.1 63 10).toInt ∧ (m.1 63 10).toInt ≤ 100) (hm : 0 ≤ (m.1 63 11).toInt ∧ (m.1 63 11).toInt ≤ 2000) (hv : 0 ≤ v.toInt ∧ v.toInt ≤ 100) {Q : zf_Me → Prop} (hq : ∀ m', zr m' = zU (zrestO (zU (zr m) 5 11 ((m.1 63 11).toInt + (if 3 < v.toInt then v.toInt else 3))) a.toInt (m.1 63 1).toInt.toNat) 5 10 ((m.1 63 10).toInt + 1) → zgc m m' → Q m') : wq_169_278 a v m Q := by
  have e3 : (3 : Int32).toInt = 3 := rfl
  have go : ∀ (mj : zf_Me) (x : Int32), mj = zf_u m 63 11 x → x.toInt = (m.1 63 11).toInt + (if 3 < v.toInt then v.toInt else 3) → ∃ n300, wq_169_300 a Q n300 0 mj := by
    intro mj x qj hx
    have zj : zr mj = zU (zr m) 5 11 ((m.1 63 11).toInt + (if 3 < v.toInt then v.toInt else 3)) := by rw [qj, zr_w11, hx]
    have c1 : mj.1 63 1 = m.1 63 1 := by rw [qj, zf_u4 (by decide)]
    have c10 : mj.1 63 10 = m.1 63 10 := by rw [qj, zf_u4 (by decide)]
    have fj : zgc m mj := by rw [qj]; exact zgr_u zgr_refl (by omega)
    refine zs_169l (by rw [zj]; exact zB3_u5 h3) (by rw [c1]; exact hp) (by rw [c10]; exact hh) (fun m' z' f' => hq m' ?_ (zgr_trans fj f'))
    rw [z', zj, c1, c10]
  refine ⟨fun g m5 q5 => go m5 _ q5 ?_, fun g m13 q13 => go m13 _ q13 ?_⟩
  · rw [fb_addI (by omega) (by omega)]
    split <;> omega
  · rw [fb_addI (by omega) (by omega), e3, if_neg (by omega)]
/-- walking, from where the legs are set -/
theorem zs_258 {a v : Int32} (ha : 6 ≤ a.toInt) (h2 : zB2 (zr m)) (h3 : zB3 (zr m)) (hb : 0 ≤ (m.1 63 1).toInt ∧ (m.1 63 1).toInt ≤ 6 ∧ 0 ≤ (m.1 63 10).toInt ∧ (m.1 63 10).toInt < 24 ∧ 0 ≤ (m.1 63 11).toInt ∧ (m.1 63 11).toInt ≤ 2000 ∧ 0 ≤ (m.1 63 3).toInt ∧ (m.1 63 3).toInt ≤ 20) (hv : v.toInt = zslope (zr m)) {Q : zf_Me → Prop} (hq : ∀ m', zr m' = zwalkd (zr m) → zgc m m' → Q m') : wq_169_258 a v m Q := by
  have e1 : (1 : Int32).toInt = 1 := rfl
  have e0 : (0 : Int32).toInt = 0 := rfl
  have e9 : (9 : Int32).toInt = 9 := rfl
  have sb := zslope_b h2 (show 0 ≤ zr m 5 10 ∧ zr m 5 10 < 24 from ⟨hb.2.2.1, hb.2.2.2.1⟩)
  intro m1 q1 m3 q3
  have z3 : zr m3 = zU (zU (zr m) 5 8 ((m.1 63 3).toInt - 1)) 5 9 0 := by
    rw [q3, zr_w6, q1, zr_w3, fb_subI (by omega) (by omega), e1, e0]
  have f3 : zgc m m3 := by
    rw [q3, q1]
    exact zgr_u (zgr_u zgr_refl (by omega)) (by omega)
  have c : ∀ k, ¬ k = 3 → ¬ k = 6 → m3.1 63 k = m.1 63 k := fun k k3 k6 => by rw [q3, zf_u4 k6, q1, zf_u4 k3]
  have s9 := fb_addI (x := 9) (y := v) (by omega) (by omega)
  refine zs_278 (by rw [z3]; exact zB3_u5 (zB3_u5 h3)) (by rw [c 1 (by decide) (by decide)]; omega) (by rw [c 10 (by decide) (by decide)]; omega) (by rw [c 11 (by decide) (by decide)]; omega) (by omega) (fun m' z' f' => hq m' ?_ (zgr_trans f3 f'))
  rw [z', z3, c 1 (by decide) (by decide), c 10 (by decide) (by decide), c 11 (by decide) (by decide), if_pos (by omega), s9, hv, e9, zrestO_car (fun k hk => by omega)]
  rfl
theorem zs_169 (hB : zB (zr m)) {a : Int32} (ha : 0 ≤ a.toInt ∧ a.toInt ≤ 9) (hm : zmay (zr m) a.toInt) {Q : zf_Me → Prop} (hq : ∀ m', zr m' = zact (zr m) a.toInt → zgc m m' → Q m') : wp_169 a m Q := by
  have e1 : (1 : Int32).toInt = 1 := rfl
  have e0 : (0 : Int32).toInt = 0 := rfl
  have e2 : (2 : Int32).toInt = 2 := rfl
  have e6 : (6 : Int32).toInt = 6 := rfl
  have e10 : (10 : Int32).toInt = 10 := rfl
  have b := zB_r hB
  have nx : ¬ a.toInt = 9 → (m.1 63 10).toInt < (m.1 63 0).toInt := fun g => by
    rcases hm with z | z | z | z | z
    · exact z.2.1.1
    · exact z.2.1.1
    · exact z.2.1.1
    · omega
    · exact z.2.2.2.2.2.1
  have sl : ¬ a.toInt = 9 → (m.1 65 (m.1 63 10).toInt.toNat).toInt = zslope (zr m) := fun g => by
    have := nx g
    exact (zN_lt (k := (m.1 63 10).toInt.toNat) (by omega)).symm
  refine ⟨fun n9 => ⟨by have := nx n9; omega, fun g6 => ⟨fun n7 => ?_, fun y7 m19 q19 => ?_⟩, fun g6 => ⟨by omega, ?_⟩⟩, fun y9 m31 q31 => ?_⟩
  · -- 6 or 8
    refine ⟨fun n8 => ?_, fun y8 m15 q15 => ?_⟩
    · have y6 : a.toInt = 6 := by omega
      have lg : 1 ≤ (m.1 63 3).toInt := by
        rcases hm with z | z | z | z | z
        · exact z.2.2
        · omega
        · omega
        · omega
        · omega
      refine zs_258 (by omega) hB.2.1 hB.2.2 (by have := nx n9; omega) (sl n9) (fun m' z' f' => hq m' ?_ f')
      rw [z']
      unfold zact
      rw [if_pos y6]
    · have z15 : zr m15 = zU (zr m) 5 4 ((m.1 63 8).toInt - 1) := by
        rw [q15, zr_w8, fb_subI (by omega) (by omega), e1]
      have c : ∀ k, ¬ k = 8 → m15.1 63 k = m.1 63 k := fun k k8 => by rw [q15, zf_u4 k8]
      have s1 := fb_addI (x := m15.1 63 3) (y := 1) (by rw [c 3 (by decide)]; omega) (by rw [c 3 (by decide)]; omega)
      have s2 := fb_addI (x := m15.1 63 4) (y := 2) (by rw [c 4 (by decide)]; omega) (by rw [c 4 (by decide)]; omega)
      rw [c 3 (by decide)] at s1
      rw [c 4 (by decide)] at s2
      have fin : ∀ x : Int32, x.toInt = (if (m.1 63 4).toInt + 2 < (m.1 63 3).toInt + 1 then (m.1 63 4).toInt + 2 else (m.1 63 3).toInt + 1) → wq_169_255 a (m.1 65 (m.1 63 10).toInt.toNat) x m15 Q := by
        intro x hx m17 q17
        have xb : 0 ≤ x.toInt ∧ x.toInt ≤ 20 := by rw [hx]; split <;> omega
        have z17 : zr m17 = zU (zU (zr m) 5 4 ((m.1 63 8).toInt - 1)) 5 8 x.toInt := by rw [q17, zr_w3, z15]
        have f17 : zgc m m17 := by
          rw [q17, q15]
          exact zgr_u (zgr_u zgr_refl (by omega)) (by omega)
        have c17 : ∀ k, ¬ k = 3 → ¬ k = 8 → m17.1 63 k = m.1 63 k := fun k k3 k8 => by rw [q17, zf_u4 k3, c k k8]
        have l17 : m17.1 63 3 = x := by rw [q17, zf_u3]
        have s17 : zslope (zr m17) = zslope (zr m) := by rw [z17]; rfl
        refine zs_258 (by omega) (by rw [z17]; exact zB2_u5 (zB2_u5 hB.2.1)) (by rw [z17]; exact zB3_u5 (zB3_u5 hB.2.2)) (by rw [c17 1 (by decide) (by decide), c17 10 (by decide) (by decide), c17 11 (by decide) (by decide), l17]; have := nx n9; omega) (by rw [s17]; exact sl n9) (fun m' z' f' => hq m' ?_ (zgr_trans f17 f'))
        rw [z', z17, hx]
        unfold zact
        rw [if_neg (c := a.toInt = 6) (by omega), if_neg (c := a.toInt = 7) (by omega), if_pos (c := a.toInt = 8) y8]
        rfl
      rw [c 3 (by decide), c 4 (by decide)]
      exact ⟨fun g => fin _ (by rw [s1, e1, if_neg (by omega)]), fun g => fin _ (by rw [s2, e2, if_pos (by omega)])⟩
  · have z19 : zr m19 = zU (zr m) 5 3 ((m.1 63 7).toInt - 1) := by
      rw [q19, zr_w7, fb_subI (by omega) (by omega), e1]
    have c : ∀ k, ¬ k = 7 → m19.1 63 k = m.1 63 k := fun k k7 => by rw [q19, zf_u4 k7]
    have s1 := fb_addI (x := m19.1 63 3) (y := 2) (by rw [c 3 (by decide)]; omega) (by rw [c 3 (by decide)]; omega)
    have s2 := fb_addI (x := m19.1 63 4) (y := 2) (by rw [c 4 (by decide)]; omega) (by rw [c 4 (by decide)]; omega)
    rw [c 3 (by decide)] at s1
    rw [c 4 (by decide)] at s2
    have fin : ∀ x : Int32, x.toInt = (if (m.1 63 4).toInt + 2 < (m.1 63 3).toInt + 2 then (m.1 63 4).toInt + 2 else (m.1 63 3).toInt + 2) → wq_169_205 a (m.1 65 (m.1 63 10).toInt.toNat) x m19 Q := by
      intro x hx m21 q21
      have xb : 0 ≤ x.toInt ∧ x.toInt ≤ 20 := by rw [hx]; split <;> omega
      have z21 : zr m21 = zU (zU (zr m) 5 3 ((m.1 63 7).toInt - 1)) 5 8 x.toInt := by rw [q21, zr_w3, z19]
      have f21 : zgc m m21 := by
        rw [q21, q19]
        exact zgr_u (zgr_u zgr_refl (by omega)) (by omega)
      have c21 : ∀ k, ¬ k = 3 → ¬ k = 7 → m21.1 63 k = m.1 63 k := fun k k3 k7 => by rw [q21, zf_u4 k3, c k k7]
      have l21 : m21.1 63 3 = x := by rw [q21, zf_u3]
      have s21 : zslope (zr m21) = zslope (zr m) := by rw [z21]; rfl
      refine ⟨fun _ => ?_, fun z => by omega⟩
      refine zs_258 (by omega) (by rw [z21]; exact zB2_u5 (zB2_u5 hB.2.1)) (by rw [z21]; exact zB3_u5 (zB3_u5 hB.2.2)) (by rw [c21 1 (by decide) (by decide), c21 10 (by decide) (by decide), c21 11 (by decide) (by decide), l21]; have := nx n9; omega) (by rw [s21]; exact sl n9) (fun m' z' f' => hq m' ?_ (zgr_trans f21 f'))
      rw [z', z21, hx]
      unfold zact
      rw [if_neg (c := a.toInt = 6) (by omega), if_pos (c := a.toInt = 7) y7]
      rfl
    rw [c 3 (by decide), c 4 (by decide)]
    exact ⟨fun g => fin _ (by rw [s1, e2, if_neg (by omega)]), fun g => fin _ (by rw [s2, e2, if_pos (by omega)])⟩
  · -- carried
    have hc : zcarryOk (zr m) a.toInt := by
      rcases hm with z | z | z | z | z
      · omega
      · omega
      · omega
      · omega
      · exact z.2.2.2.2
    have hp : 0 ≤ a.toInt ∧ a.toInt < (m.1 63 1).toInt := hc.1
    have hh := nx n9
    have hl : zr m 4 a.toInt.toNat + zload (zr m) a.toInt.toNat (zslope (zr m)) ≤ (m.1 63 9).toInt := hc.2.2.2.2
    have b2 := zB_r2 hB (k := (m.1 63 10).toInt.toNat) (by omega)
    have b3 := zB_r3 hB (k := a.toInt.toNat) (by omega)
    have a4 : zr m 4 a.toInt.toNat = (m.1 69 a.toInt.toNat).toInt := zN_lt (by omega)
    have slo := sl n9
    have lb := zload_b (f := zr m) (p := a.toInt.toNat) (v := zslope (zr m)) (by omega) (by omega)
    refine zs_165 hB (by omega) (by omega) (fun x hx => ⟨by omega, fun m25 q25 m27 q27 => ?_⟩)
    rw [slo] at hx
    have z25 : zr m25 = zU (zr m) 4 a.toInt.toNat (zr m 4 a.toInt.toNat + zload (zr m) a.toInt.toNat (zslope (zr m))) := by
      rw [q25, zr_a4 (by omega), fb_addI (by omega) (by omega), hx, a4]
    have c25 : ∀ k, m25.1 63 k = m.1 63 k := fun k => by rw [q25, zf_u1 (by decide)]
    have z27 : zr m27 = zcar1 (zr m) a.toInt.toNat := by
      rw [q27, zr_w6, z25, fb_addI (by rw [c25]; omega) (by rw [c25]; omega), c25, e1]
      rfl
    have f27 : zgc m m27 := by
      rw [q27, q25]
      exact zgr_u (zgr_u zgr_refl (by omega)) (by omega)
    have t136 : ∀ m', zr m' = zcar2 (zcar1 (zr m) a.toInt.toNat) → zgc m m' → wq_169_136 a (m.1 65 (m.1 63 10).toInt.toNat) m' Q := by
      intro m' z' f'
      have c9 : (m'.1 63 6).toInt = (m.1 63 6).toInt + 1 := by
        show zr m' 5 9 = _
        rw [z', zcar2_o (by decide)]
        rfl
      have c11 : (m'.1 63 11).toInt = (m.1 63 11).toInt := by
        show zr m' 5 11 = _
        rw [z', zcar2_o (by decide)]
        rfl
      have c10 : (m'.1 63 10).toInt = (m.1 63 10).toInt := by
        show zr m' 5 10 = _
        rw [z', zcar2_o (by decide)]
        rfl
      have c1 : (m'.1 63 1).toInt = (m.1 63 1).toInt := by
        show zr m' 5 6 = _
        rw [z', zcar2_o (by decide)]
        rfl
      have t153 : ∀ u : Int32, u.toInt = (if (m'.1 63 6).toInt = 1 then 1 else 0) → wq_169_153 a u (6 + (m.1 65 (m.1 63 10).toInt.toNat)) m' Q := by
        intro u hu
        have ub : 0 ≤ u.toInt ∧ u.toInt ≤ 1 := by rw [hu]; split <;> omega
        have s1 := fb_addI (x := 6) (y := m.1 65 (m.1 63 10).toInt.toNat) (by omega) (by omega)
        have s2 := fb_addI (x := 6 + m.1 65 (m.1 63 10).toInt.toNat) (y := u) (by omega) (by omega)
        refine zs_278 (by rw [z']; exact zB3_c2 (zB3_u5 (zB3_u4 hB.2.2 (by omega)))) (by omega) (by omega) (by omega) (by omega) (fun m2 z2 f2 => hq m2 ?_ (zgr_trans f' f2))
        rw [z2, s2, s1, slo, e6, hu, c1, c10]
        have key : zU (zr m') 5 11 ((m'.1 63 11).toInt + (if 3 < 6 + zslope (zr m) + (if (m'.1 63 6).toInt = 1 then 1 else 0) then 6 + zslope (zr m) + (if (m'.1 63 6).toInt = 1 then 1 else 0) else 3)) = zcar3 (zr m') (zslope (zr m)) := rfl
        rw [key, z']
        unfold zact
        rw [if_neg (c := a.toInt = 6) (by omega), if_neg (c := a.toInt = 7) (by omega), if_neg (c := a.toInt = 8) (by omega), if_neg (c := a.toInt = 9) (by omega)]
        unfold zcarry
        rw [show ((a.toInt.toNat : Nat) : Int) = a.toInt by omega]
        rfl
      exact ⟨fun g => t153 0 (by rw [if_neg g]; rfl), fun g => t153 1 (by rw [if_pos g]; rfl)⟩
    have d9 : (m27.1 63 6).toInt = zcar1 (zr m) a.toInt.toNat 5 9 := by
      rw [← z27]
      rfl
    have d9' : zcar1 (zr m) a.toInt.toNat 5 9 = (m.1 63 6).toInt + 1 := rfl
    have d8 : (m27.1 63 3).toInt = zcar1 (zr m) a.toInt.toNat 5 8 := by
      rw [← z27]
      rfl
    have d8' : zcar1 (zr m) a.toInt.toNat 5 8 = (m.1 63 3).toInt := rfl
    have d0 : (m27.1 63 4).toInt = zcar1 (zr m) a.toInt.toNat 5 0 := by
      rw [← z27]
      rfl
    have rm := zf_remG (x := m27.1 63 6) (y := 2) (by omega) (by decide)
    rw [e2] at rm
    refine ⟨fun g => t136 m27 ?_ f27, fun g => ⟨fun g2 => t136 m27 ?_ f27, fun g2 m29 q29 => t136 m29 ?_ ?_⟩⟩
    · rw [z27]
      unfold zcar2
      rw [if_neg (fun z => g (by rw [rm, d9]; exact z.1))]
    · rw [z27]
      unfold zcar2
      rw [if_neg (fun z => by have := z.2; omega)]
    · rw [q29, zr_w3, z27]
      unfold zcar2
      rw [if_pos ⟨by rw [← d9, ← rm]; exact g, by omega⟩, fb_addI (by omega) (by omega), d8, e1]
    · rw [q29]
      exact zgr_u f27 (by omega)
  · -- rest
    have hr : (m.1 63 11).toInt ≤ 900 := by
      rcases hm with z | z | z | z | z
      · omega
      · omega
      · omega
      · exact z.2.1
      · omega
    have z31 : zr m31 = zU (zr m) 5 11 ((m.1 63 11).toInt + 10) := by
      rw [q31, zr_w11, fb_addI (by omega) (by omega), e10]
    have f31 : zgc m m31 := by
      rw [q31]
      exact zgr_u zgr_refl (by omega)
    have c31 : ∀ k, ¬ k = 11 → m31.1 63 k = m.1 63 k := fun k hk => by rw [q31, zf_u4 hk]
    have b31 : zB3 (zr m31) := by
      rw [z31]
      exact zB3_u5 hB.2.2
    have lp : ∀ (n : Nat) (v : Int32) (mj : zf_Me), 0 ≤ v.toInt → v.toInt ≤ (m.1 63 1).toInt → (m.1 63 1).toInt - v.toInt < n → zr mj = zrestA (zr m31) v.toInt.toNat → zgc m mj → wq_169_19 a Q n v mj := by
      intro n
      induction n with
      | zero => intro v mj h0 h1 h2; omega
      | succ n ih =>
        intro v mj h0 h1 h2 hz hf
        have s := fb_addI (x := v) (y := 1) (by omega) (by omega)
        have c1 : (mj.1 63 1).toInt = (m.1 63 1).toInt := by
          show zr mj 5 6 = _
          rw [hz, zrestA_n (by decide), z31]
          rfl
        refine ⟨fun g m33 q33 => ?_, fun g => ?_⟩
        · have z33 : zr m33 = zrestA (zU (zU (zr m) 5 11 ((m.1 63 11).toInt + 10)) 5 9 0) (m.1 63 1).toInt.toNat := by
            rw [q33, zr_w6, hz, z31, zrestA_u5, show v.toInt = (m.1 63 1).toInt by omega, e0]
          have f33 : zgc m m33 := by rw [q33]; exact zgr_u hf (by omega)
          have l3 : (m33.1 63 3).toInt = (m.1 63 3).toInt := by
            show zr m33 5 8 = _
            rw [z33, zrestA_n (by decide)]
            rfl
          have l4 : (m33.1 63 4).toInt = (m.1 63 4).toInt := by
            show zr m33 5 0 = _
            rw [z33, zrestA_n (by decide)]
            rfl
          have st : zact (zr m) a.toInt = zU (zrestA (zU (zU (zr m) 5 11 ((m.1 63 11).toInt + 10)) 5 9 0) (m.1 63 1).toInt.toNat) 5 8 (if (m.1 63 3).toInt < (m.1 63 4).toInt then (m.1 63 4).toInt else (m.1 63 3).toInt) := by
            unfold zact
            rw [if_neg (c := a.toInt = 6) (by omega), if_neg (c := a.toInt = 7) (by omega), if_neg (c := a.toInt = 8) (by omega), if_pos (c := a.toInt = 9) y9, zrestA_u5]
            rfl
          refine ⟨fun g2 => hq m33 ?_ f33, fun g2 m35 q35 => hq m35 ?_ (by rw [q35]; exact zgr_u f33 (by omega))⟩
          · rw [st, if_neg (by omega), ← z33, ← l3]
            exact zU_id.symm
          · rw [st, if_pos (by omega), q35, zr_w3, z33, l4]
        · have b := b31 v.toInt.toNat (by omega)
          have a4 : zr mj 4 v.toInt.toNat = zr m31 4 v.toInt.toNat := by
            rw [hz]
            exact if_neg (fun z => by omega)
          have a4' : zr mj 4 v.toInt.toNat = (mj.1 69 v.toInt.toNat).toInt := zN_lt (by omega)
          refine zs_168 (by omega) (by omega) (by decide) (fun m' z' f' => ih _ m' (by omega) (by omega) (by omega) ?_ (zgr_trans hf f'))
          rw [z', a4, hz, show (v + 1).toInt.toNat = v.toInt.toNat + 1 by omega, zrestA_go, e6]
    exact ⟨7, lp 7 0 m31 (by omega) (by omega) (by omega) zrestA_0.symm f31⟩
end
