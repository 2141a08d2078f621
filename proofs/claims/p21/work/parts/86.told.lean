/-! part 86: told walks judged, what is behind them, on both sides -/
def zN94 (h : zH) (f : zS) (s n : Int) : Int := if ¬ zN113 h s n = 0 then -(zN113 h s n) - 10 else (ztry (h s.toNat) f n.toNat 0).1
def zbeh (g : zS) (w : Int) : Int := if w = 0 then g 5 10 else if w = 1 then g 5 11 else if w = 2 then zgr g (g 5 6).toNat else g 5 8
def zN95 (h : zH) (f : zS) (s n w : Int) : Int := if ¬ zN113 h s n = 0 ∧ ¬ zN113 h s n = 6 then -(zN113 h s n) else if w < 0 ∨ 3 < w then -5 else if zN113 h s n = 6 then -6 else if (ztry (h s.toNat) f n.toNat 0).1 = -1 then zbeh (ztry (h s.toNat) f n.toNat 0).2 w else -6
section
variable {m : zf_Me}
theorem zA_94 (hJ : JX m) {s n : Int32} {Q : Int32 → zf_Me → Prop} (K : ∀ v m', zq m m' → v.toInt = zN94 (zhC m) (zv 2 3 8 m) s.toInt n.toInt → Q v m') : wp_94 s n m Q := by
  refine zs_113x (fun x hx => ?_)
  have xb := zN113_b (h := zhC m) (s := s.toInt) (n := n.toInt)
  refine ⟨fun e => ?_, fun ne => zC_q10 (by omega) K (by unfold zN94; rw [if_pos (by rw [← hx]; exact ne), hx])⟩
  have h0 : zN113 (zhC m) s.toInt n.toInt = 0 := by rw [← hx]; exact e
  have h := zN113_0 h0
  refine ⟨h.1, zs_121x hJ.1 h0 (fun y m' hy hz hb f => K _ m' (zfr_mono f (fun a ha => by omega)) ?_)⟩
  unfold zN94
  rw [if_neg (fun z => z h0), hy]
theorem zA_95 (hJ : JX m) {s n w : Int32} {Q : Int32 → zf_Me → Prop} (K : ∀ v m', zq m m' → v.toInt = zN95 (zhC m) (zv 2 3 8 m) s.toInt n.toInt w.toInt → Q v m') : wp_95 s n w m Q := by
  have e0 : (0 : Int32).toInt = 0 := rfl
  have e5 : (5 : Int32).toInt = 5 := rfl
  have e6 : (6 : Int32).toInt = 6 := rfl
  refine zs_113x (fun x hx => ?_)
  have xb := zN113_b (h := zhC m) (s := s.toInt) (n := n.toInt)
  rw [← hx] at xb
  have A : zN95 (zhC m) (zv 2 3 8 m) s.toInt n.toInt w.toInt = if ¬ x.toInt = 0 ∧ ¬ x.toInt = 6 then -(x.toInt) else if w.toInt < 0 ∨ 3 < w.toInt then -5 else if x.toInt = 6 then -6 else if (ztry (zhC m s.toInt.toNat) (zv 2 3 8 m) n.toInt.toNat 0).1 = -1 then zbeh (ztry (zhC m s.toInt.toNat) (zv 2 3 8 m) n.toInt.toNat 0).2 w.toInt else -6 := by rw [hx]; rfl
  have no : ∀ y : Int32, ¬ y.toInt = 0 → 0 ≤ y.toInt → y.toInt ≤ 6 → zN95 (zhC m) (zv 2 3 8 m) s.toInt n.toInt w.toInt = -y.toInt → ∀ mj, zq m mj → wq_95_56 s n w y mj Q := fun y n0 n1 n2 e mj fj =>
    ⟨fun z => absurd z n0, fun _ => zs_109 (by omega) (fun m' f => K _ m' (zfr_trans fj (zfr_mono f (fun a ha => by omega))) (by rw [e]; exact fb_negI (by omega)))⟩
  have t32n : ∀ y : Int32, ¬ y.toInt = 0 → 0 ≤ y.toInt → y.toInt ≤ 6 → zN95 (zhC m) (zv 2 3 8 m) s.toInt n.toInt w.toInt = -y.toInt → wq_95_32 s n w y m Q := fun y n0 n1 n2 e =>
    ⟨fun _ => no y n0 n1 n2 e m zfr_refl, fun z => absurd z n0⟩
  have t29 : (x.toInt = 0 ∨ x.toInt = 6) → (w.toInt < 0 ∨ 3 < w.toInt) → wq_95_29 s n w m Q := fun g gw => t32n 5 (by decide) (by decide) (by decide) (by rw [A, if_neg (by omega), if_pos gw]; rfl)
  have t20 : (x.toInt = 0 ∨ x.toInt = 6) → wq_95_20 s n w x m Q := by
    intro g
    refine ⟨fun gw => t29 g (Or.inl gw), fun g0 => ⟨fun g3 => ?_, fun g3 => t29 g (Or.inr (by omega))⟩⟩
    by_cases e : x.toInt = 6
    · exact t32n x (by omega) (by omega) (by omega) (by rw [A, if_neg (by omega), if_neg (by omega), if_pos e, e])
    · have ex : x.toInt = 0 := by omega
      have h0 : zN113 (zhC m) s.toInt n.toInt = 0 := by rw [← hx]; exact ex
      have h := zN113_0 h0
      refine ⟨fun z => absurd ex z, fun _ => ⟨h.1, zs_121x hJ.1 h0 (fun y m' hy hz hb f => ?_)⟩⟩
      have F : zq m m' := zfr_mono f (fun a ha => by omega)
      refine ⟨fun ey => ⟨fun _ => ?_, fun z => absurd ex z⟩, fun ny => no 6 (by decide) (by decide) (by decide) (by rw [A, if_neg (by omega), if_neg (by omega), if_neg e, if_neg (by rw [← hy]; exact ny)]; rfl) m' F⟩
      have B : zN95 (zhC m) (zv 2 3 8 m) s.toInt n.toInt w.toInt = zbeh (zv 16 3 17 m') w.toInt := by rw [A, if_neg (by omega), if_neg (by omega), if_neg e, if_pos (by rw [← hy]; exact ey), hz]
      unfold zbeh at B
      refine ⟨fun o => K _ m' F ?_, fun o => K _ m' F ?_, fun o => K _ m' F ?_, fun o => zs_49 hb (fun z hzz => K _ m' F ?_)⟩
      · rw [B, if_neg (by omega), if_neg (by omega), if_neg (by omega)]
        rfl
      · rw [B, if_pos o]
        rfl
      · rw [B, if_neg (by omega), if_pos o]
        rfl
      · rw [B, if_neg (by omega), if_neg (by omega), if_pos o]
        exact hzz
  refine ⟨fun e => t20 (Or.inl e), fun ne => ⟨fun n6 => t32n x ne xb.1 xb.2 (by rw [A, if_pos ⟨ne, n6⟩]), fun e => t20 (Or.inr e)⟩⟩
theorem zs_139x (hJ : JM m) (ho : zso m) {s n : Int32} {Q : Int32 → zf_Me → Prop} (hq : ∀ x : Int32, x.toInt = (if zN113 (zhR m) s.toInt n.toInt = 6 then 0 else -(zN113 (zhR m) s.toInt n.toInt)) → Q x m) : wp_139 s n m Q := by
  have kk := fun (g : 0 ≤ s.toInt ∧ s.toInt < 8) => zhR_k hJ ho (s := s.toInt.toNat) (by omega)
  have N1 : ∀ x : Int32, ∀ y : Int, zN113 (zhR m) s.toInt n.toInt = y → x.toInt = -y → ¬ y = 6 → Q x m := fun x y e ex n6 => hq x (by rw [e, if_neg n6]; exact ex)
  refine zs_137x hJ ho (fun x hx => ⟨fun e => ?_, fun ne => ?_⟩)
  · obtain ⟨g, rr⟩ := zK_0.mp (show zK (zhR m) s.toInt = 0 by omega)
    have b := hJ.2.1 s.toInt.toNat (by omega)
    have k := (kk g).1 (by
      by_cases e2 : (m.1 70 s.toInt.toNat).toInt = 2
      · have := (kk g).2.1 e2
        omega
      · by_cases e3 : (m.1 70 s.toInt.toNat).toInt = 0
        · have := (kk g).2.2 e3
          omega
        · omega)
    have A : zN113 (zhR m) s.toInt n.toInt = if n.toInt < 0 then 4 else if (m.1 72 s.toInt.toNat).toInt < n.toInt then 5 else if 60 < n.toInt then 6 else 0 := by
      unfold zN113
      rw [if_neg (fun z => z g), if_neg (by omega), k.2.1]
    refine ⟨fun n0 => ⟨g, fun nl => hq 0 ?_, fun nl => N1 (-5) 5 (by rw [A, if_neg (by omega), if_pos nl]) rfl (by decide)⟩, fun n0 => N1 (-4) 4 (by rw [A, if_pos n0]) rfl (by decide)⟩
    have v : zN113 (zhR m) s.toInt n.toInt = if 60 < n.toInt then 6 else 0 := by rw [A, if_neg (by omega), if_neg (by omega)]
    by_cases z : 60 < n.toInt
    · rw [v, if_pos z]
      rfl
    · rw [v, if_neg z]
      rfl
  · have e : zN113 (zhR m) s.toInt n.toInt = zK (zhR m) s.toInt := by
      unfold zN113 zK
      by_cases g : 0 ≤ s.toInt ∧ s.toInt < 8
      · rw [if_neg (c := ¬ (0 ≤ s.toInt ∧ s.toInt < 8)) (fun z => z g), if_neg (c := ¬ (0 ≤ s.toInt ∧ s.toInt < 8)) (fun z => z g)]
        have nr : ¬ 100 ≤ (zhR m s.toInt.toNat).1 := fun z => by
          have := zK_0.mpr ⟨g, z⟩
          omega
        rw [if_pos (c := (zhR m s.toInt.toNat).1 < 100) (by omega), if_neg nr]
      · rw [if_pos (c := ¬ (0 ≤ s.toInt ∧ s.toInt < 8)) g, if_pos (c := ¬ (0 ≤ s.toInt ∧ s.toInt < 8)) g]
    have kb := zK_b (h := zhR m) (s := s.toInt)
    exact N1 x _ e hx (by omega)
theorem zG_191 (hJ : JM m) (ho : zso m) {s n : Int32} {Q : Int32 → zf_Me → Prop} (K : ∀ v m', zgQ m m' → zr m' = zr m → v.toInt = zN94 (zhR m) (zr m) s.toInt n.toInt → Q v m') : wp_191 s n m Q := by
  refine zs_190x hJ ho (fun x hx => ?_)
  have xb := zN113_b (h := zhR m) (s := s.toInt) (n := n.toInt)
  refine ⟨fun e => ?_, fun ne => zR_q10 (by omega) K (by unfold zN94; rw [if_pos (by omega), hx])⟩
  have h0 : zN113 (zhR m) s.toInt n.toInt = 0 := by omega
  have h := zN113_0 h0
  have kk := zhR_k hJ ho (s := s.toInt.toNat) (by omega)
  have b := hJ.2.1 s.toInt.toNat (by omega)
  have k1 : (m.1 70 s.toInt.toNat).toInt = 1 := by
    by_cases k0 : (m.1 70 s.toInt.toNat).toInt = 0
    · have := kk.2.2 k0
      omega
    · by_cases k2 : (m.1 70 s.toInt.toNat).toInt = 2
      · have := kk.2.1 k2
        omega
      · omega
  have k := kk.1 k1
  refine zs_161s (by decide) rfl (by decide) (fun m4 a4 f4 z4 => ?_)
  have a4' : zA 81 0 m4 = zr m := a4
  refine zs_189x (by rw [z4]; exact hJ.1) h.1 ⟨h.2.2.1, h.2.2.2.2⟩ (x := zhR m s.toInt.toNat) (fun i hi => ?_) (fun y m6 hy hz hb f6 => zs_182 (fun m8 z8 f8 => K _ m8 ?_ ?_ ?_))
  · unfold zel
    rw [k.2.2.2 i (by omega), f4.2]
  · exact zgr_trans (zgr_mono f4 (fun a k z => by omega)) (zgr_trans (zgc_q f6) (zgc_q f8))
  · rw [z8, zA_of f6 (fun k => by omega)]
    exact a4'
  · unfold zN94
    rw [if_neg (fun z => z h0), hy, z4]
theorem zG_192 (hJ : JM m) (ho : zso m) {s n w : Int32} {Q : Int32 → zf_Me → Prop} (K : ∀ v m', zgQ m m' → zr m' = zr m → v.toInt = zN95 (zhR m) (zr m) s.toInt n.toInt w.toInt → Q v m') : wp_192 s n w m Q := by
  have e0 : (0 : Int32).toInt = 0 := rfl
  have e5 : (-5 : Int32).toInt = -5 := rfl
  have xb := zN113_b (h := zhR m) (s := s.toInt) (n := n.toInt)
  have no : ∀ y : Int32, ¬ y.toInt = 0 → y.toInt ≤ 0 → -6 ≤ y.toInt → zN95 (zhR m) (zr m) s.toInt n.toInt w.toInt = y.toInt → wq_192_39 s n w y m Q := fun y n0 n1 n2 e =>
    ⟨fun z => absurd z n0, fun _ => zR_q (by omega) K e⟩
  have no2 : ∀ y : Int32, ¬ y.toInt = 0 → y.toInt ≤ 0 → -6 ≤ y.toInt → zN95 (zhR m) (zr m) s.toInt n.toInt w.toInt = y.toInt → wq_192_26 s n w y m Q := fun y n0 n1 n2 e =>
    ⟨fun _ => no y n0 n1 n2 e, fun z => absurd z n0⟩
  have t22 : (zN113 (zhR m) s.toInt n.toInt = 0 ∨ zN113 (zhR m) s.toInt n.toInt = 6) → (w.toInt < 0 ∨ 3 < w.toInt) → wq_192_22 s n w m Q := fun g gw => no2 (-5) (by decide) (by decide) (by decide) (by unfold zN95; rw [if_neg (by omega), if_pos gw]; rfl)
  refine zs_139x hJ ho (fun x1 hx1 => ⟨fun ne => ?_, fun e => ?_⟩)
  · by_cases g6 : zN113 (zhR m) s.toInt n.toInt = 6
    · rw [if_pos g6] at hx1
      exact absurd hx1 ne
    · rw [if_neg g6] at hx1
      exact no2 x1 ne (by omega) (by omega) (by unfold zN95; rw [if_pos (by omega), hx1])
  · have g : zN113 (zhR m) s.toInt n.toInt = 0 ∨ zN113 (zhR m) s.toInt n.toInt = 6 := by
      by_cases g6 : zN113 (zhR m) s.toInt n.toInt = 6
      · exact Or.inr g6
      · rw [if_neg g6] at hx1
        omega
    refine ⟨fun gw => t22 g (Or.inl gw), fun g0 => ⟨fun g3 => ⟨fun z => absurd e z, fun _ => zs_190x hJ ho (fun x15 hx => ?_)⟩, fun g3 => t22 g (Or.inr (by omega))⟩⟩
    by_cases e6 : zN113 (zhR m) s.toInt n.toInt = 6
    · exact no x15 (by omega) (by omega) (by omega) (by unfold zN95; rw [if_neg (by omega), if_neg (by omega), if_pos e6, hx, e6])
    · have h0 : zN113 (zhR m) s.toInt n.toInt = 0 := by omega
      have h := zN113_0 h0
      have kk := zhR_k hJ ho (s := s.toInt.toNat) (by omega)
      have b := hJ.2.1 s.toInt.toNat (by omega)
      have k1 : (m.1 70 s.toInt.toNat).toInt = 1 := by
        by_cases k0 : (m.1 70 s.toInt.toNat).toInt = 0
        · have := kk.2.2 k0
          omega
        · by_cases k2 : (m.1 70 s.toInt.toNat).toInt = 2
          · have := kk.2.1 k2
            omega
          · omega
      have k := kk.1 k1
      refine ⟨fun _ => zs_161s (by decide) rfl (by decide) (fun m4 a4 f4 z4 => ?_), fun z => absurd (by omega) z⟩
      have a4' : zA 81 0 m4 = zr m := a4
      refine zs_189x (by rw [z4]; exact hJ.1) h.1 ⟨h.2.2.1, h.2.2.2.2⟩ (x := zhR m s.toInt.toNat) (fun i hi => ?_) (fun y m6 hy hz hb f6 => ?_)
      · unfold zel
        rw [k.2.2.2 i (by omega), f4.2]
      · rw [z4] at hy hz
        have A : zN95 (zhR m) (zr m) s.toInt n.toInt w.toInt = if y.toInt = -1 then zbeh (zr m6) w.toInt else -6 := by
          unfold zN95
          rw [if_neg (by omega), if_neg (by omega), if_neg e6, hy, hz]
        have T : ∀ u : Int32, u.toInt = zbeh (zr m6) w.toInt → wq_192_108 s n w y u m6 Q := fun u hu => by
          refine zs_182 (fun m8 z8 f8 => ?_)
          have Z8 : zr m8 = zr m := by
            rw [z8, zA_of f6 (fun k => by omega)]
            exact a4'
          have F8 : zgQ m m8 := zgr_trans (zgr_mono f4 (fun a k z => by omega)) (zgr_trans (zgc_q f6) (zgc_q f8))
          refine ⟨fun ny => zs_125 (by decide) (fun m9 f9 => K _ m9 (zgr_trans F8 (zg64_q f9)) ((zg64_r f9).trans Z8) ?_), fun ey => K _ m8 F8 Z8 ?_⟩
          · rw [A, if_neg ny]
            rfl
          · rw [A, if_pos ey]
            exact hu
        unfold zbeh at T
        refine ⟨fun n0 => ⟨fun n1 => ⟨fun n2 => T _ ?_, fun e2 => zs_170 hb (fun x11 h11 => T _ ?_)⟩, fun e1 => T _ ?_⟩, fun e00 => T _ ?_⟩
        · rw [if_neg n0, if_neg n1, if_neg n2]
          rfl
        · rw [if_neg n0, if_neg n1, if_pos e2]
          exact h11
        · rw [if_neg n0, if_pos e1]
          rfl
        · rw [if_pos e00]
          rfl
end
