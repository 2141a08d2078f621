section
/-! part 86: told walks judged, what is behind them, on both sides -/
def zN94 (h : zH) (f : zS) (s n : Int) : Int := if ¬ zN113 h s n = 0 then -(zN113 h s n) - 10 else (ztry (h s.toNat) f n.toNat 0).1
def zbeh (g : zS) (w : Int) : Int := if w = 0 then g 5 10 else if w = 1 then g 5 11 else if w = 2 then zgr g (g 5 6).toNat else g 5 8
def zN95 (h : zH) (f : zS) (s n w : Int) : Int := if ¬ zN113 h s n = 0 ∧ ¬ zN113 h s n = 6 then -(zN113 h s n) else if w < 0 ∨ 3 < w then -5 else if zN113 h s n = 6 then -6 else if (ztry (h s.toNat) f n.toNat 0).1 = -1 then zbeh (ztry (h s.toNat) f n.toNat 0).2 w else -6
section
variable {m : zf_Me}
theorem zA_94 (hJ : JX m) {s n : Int32} {Q : Int32 → zf_Me → Prop} (K : ∀ v m', zq m m' → v.toInt = zN94 (zhC m) (zv 2 3 8 m) s.toInt n.toInt → Q v m') : wp_94 s n m Q := by
  refine zs_113x (fun x hx => ?_)
  have xb := zN113_b (h := zhC m) (s := s.toInt) (n := n.toInt)
  refine ⟨fun e => ?_, fun ne => zC_q10 (by omega) K (by unfold zN94; rw [if_pos (by rw [← hx]; exact ne), hx])⟩
  have h0 : zN113 (zhC m) s.toInt n.toInt = 0 := by rw [← hx]; exact e
  have h := zN113_0 h0
  refine ⟨h.1, zs_121x hJ.1 h0 (fun y m' hy hz hb f => K _ m' (zfr_mono f (fun a ha => by omega)) ?_)⟩
  unfold zN94
  rw [if_neg (fun z => z h0), hy]
theorem zA_95 (hJ : JX m) {s n w : Int32} {Q : Int32 → zf_Me → Prop} (K : ∀ v m', zq m m' → v.toInt = zN95 (zhC m) (zv 2 3 8 m) s.toInt n.toInt w.toInt → Q v m') : wp_95 s n w m Q := by
  have e0 : (0 : Int32).toInt = 0 := rfl
  have e5 : (5 : Int32).toInt = 5 := rfl
  have e6 : (6 : Int32).toInt = 6 := rfl
  refine zs_113x (fun x hx => ?_)
  have xb := zN113_b (h := zhC m) (s := s.toInt) (n := n.toInt)
  rw [← hx] at xb
  have A : zN95 (zhC m) (zv 2 3 8 m) s.toInt n.toInt w.toInt = if ¬ x.toInt = 0 ∧ ¬ x.toInt = 6 then -(x.toInt) else if w.toInt < 0 ∨ 3 < w.toInt then -5 else if x.toInt = 6 then -6 else if (ztry (zhC m s.toInt.toNat) (zv 2 3 8 m) n.toInt.toNat 0).1 = -1 then zbeh (ztry (zhC m s.toInt.toNat) (zv 2 3 8 m) n.toInt.toNat 0).2 w.toInt else -6 := by rw [hx]; rfl
  have no : ∀ y : Int32, ¬ y.toInt = 0 → 0 ≤ y.toInt → y.toInt ≤ 6 → zN95 (zhC m) (zv 2 3 8 m) s.toInt n.toInt w.toInt = -y.toInt → ∀ mj, zq m mj → wq_95_56 s n w y mj Q := fun y n0 n1 n2 e mj fj =>
    ⟨fun z => absurd z n0, fun _ => zs_109 (by omega) (fun m' f => K _ m' (zfr_trans fj (zfr_mono f (fun a ha => by omega))) (by rw [e]; exact fb_negI (by omega)))⟩
  have t32n : ∀ y : Int32, ¬ y.toInt = 0 → 0 ≤ y.toInt → y.toInt ≤ 6 → zN95 (zhC m) (zv 2 3 8 m) s.toInt n.toInt w.toInt = -y.toInt → wq_95_32 s n w y m Q := fun y n0 n1 n2 e =>
    ⟨fun _ => no y n0 n1 n2 e m zfr_refl, fun z => absurd z n0⟩
  have t29 : (x.toInt = 0 ∨ x.toInt = 6) → (w.toInt < 0 ∨ 3 < w.toInt) → wq_95_29 s n w m Q := fun g gw => t32n 5 (by decide) (by decide) (by decide) (by rw [A, if_neg (by omega), if_pos gw]; rfl)
  have t20 : (x.toInt = 0 ∨ x.toInt = 6) → wq_95_20 s n w x m Q := by
    intro g
    refine ⟨fun gw => t29 g (Or.inl gw), fun g0 => ⟨fun g3 => ?_, fun g3 => t29 g (Or.inr (by omega))⟩⟩
    by_cases e : x.toInt = 6
    · exact t32n x (by omega) (by omega) (by omega) (by rw [A, if_neg (by omega), if_neg (by omega), if_pos e, e])
    · have ex : x.toInt = 0 := by omega
      have h0 : zN113 (zhC m) s.toInt n.toInt = 0 := by rw [← hx]; exact ex
      have h := zN113_0 h0
      refine ⟨fun z => absurd ex z, fun _ => ⟨h.1, zs_121x hJ.1 h0 (fun y m' hy hz hb f => ?_)⟩⟩
      have F : zq m m' := zfr_mono f (fun a ha => by omega)
      refine ⟨fun ey => ⟨fun _ => ?_, fun z => absurd ex z⟩, fun ny => no 6 (by decide) (by decide) (by decide) (by rw [A, if_neg (by omega), if_neg (by omega), if_neg e, if_neg (by rw [← hy]; exact ny)]; rfl) m' F⟩
      have B : zN95 (zhC m) (zv 2 3 8 m) s.toInt n.toInt w.toInt = zbeh (zv 16 3 17 m') w.toInt := by rw [A, if_neg (by omega), if_neg (by omega), if_neg e, if_pos (by rw [← hy]; exact ey), hz]
      unfold zbeh at B
      refine ⟨fun o => K _ m' F ?_, fun o => K _ m' F ?_, fun o => K _ m' F ?_, fun o => zs_49 hb (fun z hzz => K _ m' F ?_)⟩
      · rw [B, if_neg (by omega), if_neg (by omega), if_neg (by omega)]
        rfl
      · rw [B, if_pos o]
        rfl
      · rw [B, if_neg (by omega), if_pos o]
        rfl
      · rw [B, if_neg (by omega), if_neg (by omega), if_pos o]
        exact hzz
  refine ⟨fun e => t20 (Or.inl e), fun ne => ⟨fun n6 => t32n x ne xb.1 xb.2 (by rw [A, if_pos ⟨ne, n6⟩]), fun e => t20 (Or.inr e)⟩⟩
theorem zs_139x (hJ : JM m) (ho : zso m) {s n : Int32} {Q : Int32 → zf_Me → Prop} (hq : ∀ x : Int32, x.toInt = (if zN113 (zhR m) s.toInt n.toInt = 6 then 0 else -(zN113 (zhR m) s.toInt n.toInt)) → Q x m) : wp_139 s n m Q := by
  have kk := fun (g : 0 ≤ s.toInt ∧ s.toInt < 8) => zhR_k hJ ho (s := s.toInt.toNat) (by omega)
  have N1 : ∀ x : Int32, ∀ y : Int, zN113 (zhR m) s.toInt n.toInt = y → x.toInt = -y → ¬ y = 6 → Q x m := fun x y e ex n6 => hq x (by rw [e, if_neg n6]; exact ex)
  refine zs_137x hJ ho (fun x hx => ⟨fun e => ?_, fun ne => ?_⟩)
  · obtain ⟨g, rr⟩ := zK_0.mp (show zK (zhR m) s.toInt = 0 by omega)
    have b := hJ.2.1 s.toInt.toNat (by omega)
    have k := (kk g).1 (by
      by_cases e2 : (m.1 70 s.toInt.toNat).toInt = 2
      · have := (kk g).2.1 e2
        omega
      · by_cases e3 : (m.1 70 s.toInt.toNat).toInt = 0
        · have := (kk g).2.2 e3
          omega
        · omega)
    have A : zN113 (zhR m) s.toInt n.toInt = if n.toInt < 0 then 4 else if (m.1 72 s.toInt.toNat).toInt < n.toInt then 5 else if 60 < n.toInt then 6 else 0 := by
      unfold zN113
      rw [if_neg (fun z => z g), if_neg (by omega), k.2.1]
    refine ⟨fun n0 => ⟨g, fun nl => hq 0 ?_, fun nl => N1 (-5) 5 (by rw [A, if_neg (by omega), if_pos nl]) rfl (by decide)⟩, fun n0 => N1 (-4) 4 (by rw [A, if_pos n0]) rfl (by decide)⟩
    have v : zN113 (zhR m) s.toInt n.toInt = if 60 < n.toInt then 6 else 0 := by rw [A, if_neg (by omega), if_neg (by omega)]
    by_cases z : 60 < n.toInt
    · rw [v, if_pos z]
      rfl
    · rw [v, if_neg z]
      rfl
  · have e : zN113 (zhR m) s.toInt n.toInt = zK (zhR m) s.toInt := by
      unfold zN113 zK
      by_cases g : 0 ≤ s.toInt ∧ s.toInt < 8
      · rw [if_neg (c := ¬ (0 ≤ s.toInt ∧ s.toInt < 8)) (fun z => z g), if_neg (c := ¬ (0 ≤ s.toInt ∧ s.toInt < 8)) (fun z => z g)]
        have nr : ¬ 100 ≤ (zhR m s.toInt.toNat).1 := fun z => by
          have := zK_0.mpr ⟨g, z⟩
          omega
        rw [if_pos (c := (zhR m s.toInt.toNat).1 < 100) (by omega), if_neg nr]
      · rw [if_pos (c := ¬ (0 ≤ s.toInt ∧ s.toInt < 8)) g, if_pos (c := ¬ (0 ≤ s.toInt ∧ s.toInt < 8)) g]
    have kb := zK_b (h := zhR m) (s := s.toInt)
    exact N1 x _ e hx (by omega)
theorem zG_191 (hJ : JM m) (ho : zso m) {s n : Int32} {Q : Int32 → zf_Me → Prop} (K : ∀ v m', zgQ m m' → zr m' = zr m → v.toInt = zN94 (zhR m) (zr m) s.toInt n.toInt → Q v m') : wp_191 s n m Q := by
  refine zs_190x hJ ho (fun x hx => ?_)
  have xb := zN113_b (h := zhR m) (s := s.toInt) (n := n.toInt)
  refine ⟨fun e => ?_, fun ne => zR_q10 (by omega) K (by unfold zN94; rw [if_pos (by omega), hx])⟩
  have h0 : zN113 (zhR m) s.toInt n.toInt = 0 := by omega
  have h := zN113_0 h0
  have kk := zhR_k hJ ho (s := s.toInt.toNat) (by omega)
  have b := hJ.2.1 s.toInt.toNat (by omega)
  have k1 : (m.1 70 s.toInt.toNat).toInt = 1 := by
    by_cases k0 : (m.1 70 s.toInt.toNat).toInt = 0
    · have := kk.2.2 k0
      omega
    · by_cases k2 : (m.1 70 s.toInt.toNat).toInt = 2
      · have := kk.2.1 k2
        omega
      · omega
  have k := kk.1 k1
  refine zs_161s (by decide) rfl (by decide) (fun m4 a4 f4 z4 => ?_)
  have a4' : zA 81 0 m4 = zr m := a4
  refine zs_189x (by rw [z4]; exact hJ.1) h.1 ⟨h.2.2.1, h.2.2.2.2⟩ (x := zhR m s.toInt.toNat) (fun i hi => ?_) (fun y m6 hy hz hb f6 => zs_182 (fun m8 z8 f8 => K _ m8 ?_ ?_ ?_))
  · unfold zel
    rw [k.2.2.2 i (by omega), f4.2]
  · exact zgr_trans (zgr_mono f4 (fun a k z => by omega)) (zgr_trans (zgc_q f6) (zgc_q f8))
  · rw [z8, zA_of f6 (fun k => by omega)]
    exact a4'
  · unfold zN94
    rw [if_neg (fun z => z h0), hy, z4]
theorem zG_192 (hJ : JM m) (ho : zso m) {s n w : Int32} {Q : Int32 → zf_Me → Prop} (K : ∀ v m', zgQ m m' → zr m' = zr m → v.toInt = zN95 (zhR m) (zr m) s.toInt n.toInt w.toInt → Q v m') : wp_192 s n w m Q := by
  have e0 : (0 : Int32).toInt = 0 := rfl
  have e5 : (-5 : Int32).toInt = -5 := rfl
  have xb := zN113_b (h := zhR m) (s := s.toInt) (n := n.toInt)
  have no : ∀ y : Int32, ¬ y.toInt = 0 → y.toInt ≤ 0 → -6 ≤ y.toInt → zN95 (zhR m) (zr m) s.toInt n.toInt w.toInt = y.toInt → wq_192_39 s n w y m Q := fun y n0 n1 n2 e =>
    ⟨fun z => absurd z n0, fun _ => zR_q (by omega) K e⟩
  have no2 : ∀ y : Int32, ¬ y.toInt = 0 → y.toInt ≤ 0 → -6 ≤ y.toInt → zN95 (zhR m) (zr m) s.toInt n.toInt w.toInt = y.toInt → wq_192_26 s n w y m Q := fun y n0 n1 n2 e =>
    ⟨fun _ => no y n0 n1 n2 e, fun z => absurd z n0⟩
  have t22 : (zN113 (zhR m) s.toInt n.toInt = 0 ∨ zN113 (zhR m) s.toInt n.toInt = 6) → (w.toInt < 0 ∨ 3 < w.toInt) → wq_192_22 s n w m Q := fun g gw => no2 (-5) (by decide) (by decide) (by decide) (by unfold zN95; rw [if_neg (by omega), if_pos gw]; rfl)
  refine zs_139x hJ ho (fun x1 hx1 => ⟨fun ne => ?_, fun e => ?_⟩)
  · by_cases g6 : zN113 (zhR m) s.toInt n.toInt = 6
    · rw [if_pos g6] at hx1
      exact absurd hx1 ne
    · rw [if_neg g6] at hx1
      exact no2 x1 ne (by omega) (by omega) (by unfold zN95; rw [if_pos (by omega), hx1])
  · have g : zN113 (zhR m) s.toInt n.toInt = 0 ∨ zN113 (zhR m) s.toInt n.toInt = 6 := by
      by_cases g6 : zN113 (zhR m) s.toInt n.toInt = 6
      · exact Or.inr g6
      · rw [if_neg g6] at hx1
        omega
    refine ⟨fun gw => t22 g (Or.inl gw), fun g0 => ⟨fun g3 => ⟨fun z => absurd e z, fun _ => zs_190x hJ ho (fun x15 hx => ?_)⟩, fun g3 => t22 g (Or.inr (by omega))⟩⟩
    by_cases e6 : zN113 (zhR m) s.toInt n.toInt = 6
    · exact no x15 (by omega) (by omega) (by omega) (by unfold zN95; rw [if_neg (by omega), if_neg (by omega), if_pos e6, hx, e6])
    · have h0 : zN113 (zhR m) s.toInt n.toInt = 0 := by omega
      have h := zN113_0 h0
      have kk := zhR_k hJ ho (s := s.toInt.toNat) (by omega)
      have b := hJ.2.1 s.toInt.toNat (by omega)
      have k1 : (m.1 70 s.toInt.toNat).toInt = 1 := by
        by_cases k0 : (m.1 70 s.toInt.toNat).toInt = 0
        · have := kk.2.2 k0
          omega
        · by_cases k2 : (m.1 70 s.toInt.toNat).toInt = 2
          · have := kk.2.1 k2
            omega
          · omega
      have k := kk.1 k1
      refine ⟨fun _ => zs_161s (by decide) rfl (by decide) (fun m4 a4 f4 z4 => ?_), fun z => absurd (by omega) z⟩
      have a4' : zA 81 0 m4 = zr m := a4
      refine zs_189x (by rw [z4]; exact hJ.1) h.1 ⟨h.2.2.1, h.2.2.2.2⟩ (x := zhR m s.toInt.toNat) (fun i hi => ?_) (fun y m6 hy hz hb f6 => ?_)
      · unfold zel
        rw [k.2.2.2 i (by omega), f4.2]
      · rw [z4] at hy hz
        have A : zN95 (zhR m) (zr m) s.toInt n.toInt w.toInt = if y.toInt = -1 then zbeh (zr m6) w.toInt else -6 := by
          unfold zN95
          rw [if_neg (by omega), if_neg (by omega), if_neg e6, hy, hz]
        have T : ∀ u : Int32, u.toInt = zbeh (zr m6) w.toInt → wq_192_108 s n w y u m6 Q := fun u hu => by
          refine zs_182 (fun m8 z8 f8 => ?_)
          have Z8 : zr m8 = zr m := by
            rw [z8, zA_of f6 (fun k => by omega)]
            exact a4'
          have F8 : zgQ m m8 := zgr_trans (zgr_mono f4 (fun a k z => by omega)) (zgr_trans (zgc_q f6) (zgc_q f8))
          refine ⟨fun ny => zs_125 (by decide) (fun m9 f9 => K _ m9 (zgr_trans F8 (zg64_q f9)) ((zg64_r f9).trans Z8) ?_), fun ey => K _ m8 F8 Z8 ?_⟩
          · rw [A, if_neg ny]
            rfl
          · rw [A, if_pos ey]
            exact hu
        unfold zbeh at T
        refine ⟨fun n0 => ⟨fun n1 => ⟨fun n2 => T _ ?_, fun e2 => zs_170 hb (fun x11 h11 => T _ ?_)⟩, fun e1 => T _ ?_⟩, fun e00 => T _ ?_⟩
        · rw [if_neg n0, if_neg n1, if_neg n2]
          rfl
        · rw [if_neg n0, if_neg n1, if_pos e2]
          exact h11
        · rw [if_neg n0, if_pos e1]
          rfl
        · rw [if_pos e00]
          rfl
end
end
section
/-! part 87: what a text tells, as a function -/
abbrev zT : Type := Int × (Nat → Int)
abbrev zis (T : zT) (p c : Int) : Prop := p < T.1 ∧ T.2 p.toNat = c
abbrev zdg (T : zT) (p : Int) : Prop := p < T.1 ∧ 48 ≤ T.2 p.toNat ∧ T.2 p.toNat ≤ 57
def zch (w i : Nat) : Int := ((zx_sb.getD w []).getD i 0).toInt
def zln (w : Nat) : Nat := zx_sl.getD w 0
def zMb (T : zT) (s : Int) (w : Nat) : Nat → Bool
  | 0 => true
  | n + 1 => zMb T s w n && decide (zis T (s + n) (zch w n))
def zfind (T : zT) (s : Int) : Nat → Nat
  | 0 => 12
  | n + 1 => if zMb T s n (zln n) = true then n else zfind T s n
def zany (T : zT) (s : Int) (n : Nat) : Nat → Bool
  | 0 => false
  | k + 1 => zany T s n k || (decide (n ≤ zln k) && zMb T s k n)
def zfar (T : zT) (s : Int) : Nat → Nat
  | 0 => 0
  | n + 1 => if zany T s (n + 1) 12 = true then n + 1 else zfar T s n
/-- the digits at q, of which the first is one -/
def zdgs (T : zT) (q : Int) : Int × Int := if zdg T (q + 1) then ((T.2 q.toNat - 48) * 10 + T.2 (q + 1).toNat - 48, q + 2) else (T.2 q.toNat - 48, q + 1)
def znum (T : zT) (q lo hi : Int) : Int × Int := if ¬ zis T q 32 then (-1, q) else if ¬ zdg T (q + 1) then (-1, q + 1) else if (zdgs T (q + 1)).1 < lo ∨ hi < (zdgs T (q + 1)).1 then (-1, q + 1) else zdgs T (q + 1)
def zroomB (f : zS) (w : Nat) : Bool := decide ((w = 0 ∨ w = 1 → f 5 5 < 24) ∧ (w = 2 → 0 < f 5 5) ∧ (w = 3 → f 5 6 < 6))
theorem zroom_i {f : zS} {w : Nat} : zroomB f w = true ↔ ((w = 0 ∨ w = 1 → f 5 5 < 24) ∧ (w = 2 → 0 < f 5 5) ∧ (w = 3 → f 5 6 < 6)) := decide_eq_true_iff
abbrev zIt : Type := Int × Int × zS
def zone (r : Int × Int) (g : Int → zS) (f : zS) : zIt := if r.1 = -1 then (r.2, 0, f) else (-1, r.2, g r.1)
def ztwo (r : Int × Int) (g : Int → Int → zIt) (f : zS) : zIt := if r.1 = -1 then (r.2, 0, f) else g r.1 r.2
def zarg (T : zT) (f : zS) (w : Nat) (q : Int) : zIt :=
  if w = 0 then zone (znum T q 0 3) (fun v => zaddF f v 0) f
  else if w = 1 then zone (znum T q 0 3) (fun v => zaddF f (-v) 0) f
  else if w = 2 then (-1, q, zU f 1 (f 5 5 - 1).toNat 1)
  else if w = 3 then ztwo (znum T q 0 6) (fun a q2 => zone (znum T q2 0 9) (fun v => zaddP f a v) f) f
  else if w = 4 then ztwo (znum T q 0 (f 5 6 - 1)) (fun a q2 => zone (znum T q2 0 99) (fun v => zU f 4 a.toNat v) f) f
  else if w = 5 then zone (znum T q 0 (f 5 6 - 1)) (fun v => zU f 5 7 v) f
  else if w = 6 then ztwo (znum T q 0 9) (fun a q2 => if zmay f a then (-1, q2, zact f a) else (q + 1, 0, f)) f
  else zone (znum T q (zlo (w - 7)) (zhi (w - 7))) (fun v => zask f (w - 7) v) f
def zitem (T : zT) (f : zS) (s : Int) : zIt := if zfind T s 12 = 12 then (s + zfar T s 8, 0, f) else if ¬ zroomB f (zfind T s 12) = true then (s, 0, f) else zarg T f (zfind T s 12) (s + zln (zfind T s 12))
/-- what ITEMS from place s on tell: the fault or -1, how many, the walk -/
def zway (T : zT) : Nat → zS → Int → Int → zIt
  | 0, f, _, n => (-1, n, f)
  | k + 1, f, s, n => if ¬ (zitem T f s).1 = -1 then ((zitem T f s).1, n + 1, f) else if ¬ (zitem T f s).2.1 < T.1 then (-1, n + 1, (zitem T f s).2.2) else if ¬ zis T (zitem T f s).2.1 59 then ((zitem T f s).2.1, n + 1, f) else zway T k (zitem T f s).2.2 ((zitem T f s).2.1 + 1) (n + 1)
def ztext (x : zHe) : zT := (x.2.1, zel x)
/-- answer, walk, fault (-2: as it was) -/
def zN82 (h : zH) (f : zS) (s : Int) : Int × zS × Int := if ¬ zK h s = 0 then (-(zK h s), f, -2) else if (zway (ztext (h s.toNat)) 170 f 0 0).1 = -1 then ((zway (ztext (h s.toNat)) 170 f 0 0).2.1, (zway (ztext (h s.toNat)) 170 f 0 0).2.2, -1) else (-6, f, (zway (ztext (h s.toNat)) 170 f 0 0).1)
theorem zMb_i {T : zT} {s : Int} {w : Nat} : ∀ n, zMb T s w n = true ↔ ∀ i : Nat, i < n → zis T (s + i) (zch w i)
  | 0 => iff_of_true rfl (fun i hi => absurd hi (Nat.not_lt_zero i))
  | n + 1 => by
    unfold zMb
    rw [Bool.and_eq_true, zMb_i n, decide_eq_true_iff]
    refine ⟨fun h i hi => ?_, fun h => ⟨fun i hi => h i (by omega), h n (by omega)⟩⟩
    by_cases e : i = n
    · rw [e]
      exact h.2
    · exact h.1 i (by omega)
theorem zMb_le {T : zT} {s : Int} {w n k : Nat} (h : zMb T s w n = true) (hk : k ≤ n) : zMb T s w k = true := (zMb_i k).mpr (fun i hi => (zMb_i n).mp h i (by omega))
theorem zany_i {T : zT} {s : Int} {n : Nat} : ∀ k, zany T s n k = true ↔ ∃ w, w < k ∧ n ≤ zln w ∧ zMb T s w n = true
  | 0 => iff_of_false (fun z => by cases z) (fun ⟨w, h, _⟩ => absurd h (Nat.not_lt_zero w))
  | k + 1 => by
    unfold zany
    rw [Bool.or_eq_true, zany_i k, Bool.and_eq_true, decide_eq_true_iff]
    refine ⟨fun h => ?_, fun ⟨w, h1, h2, h3⟩ => ?_⟩
    · rcases h with ⟨w, h1, h2, h3⟩ | ⟨h2, h3⟩
      · exact ⟨w, by omega, h2, h3⟩
      · exact ⟨k, by omega, h2, h3⟩
    · by_cases e : w = k
      · rw [e] at h2 h3
        exact Or.inr ⟨h2, h3⟩
      · exact Or.inl ⟨w, by omega, h2, h3⟩
/-- no word begins another -/
theorem zpf0 : ∀ w, w < 12 → ∀ v, v < 12 → zln w ≤ zln v → (∀ i, i < zln w → zch w i = zch v i) → w = v := by decide +kernel
theorem zpf {T : zT} {s : Int} {w v : Nat} (hw : w < 12) (hv : v < 12) (h : zMb T s w (zln w) = true) (hl : zln w ≤ zln v) (k : zMb T s v (zln w) = true) : w = v :=
  zpf0 w hw v hv hl (fun i hi => ((zMb_i _).mp h i hi).2.symm.trans ((zMb_i _).mp k i hi).2)
theorem zln_b : ∀ w, w < 12 → 2 ≤ zln w ∧ zln w ≤ 8 := by decide +kernel
theorem zfind_c {T : zT} {s : Int} : ∀ n, n ≤ 12 → zfind T s n = 12 ∨ (zfind T s n < n ∧ zMb T s (zfind T s n) (zln (zfind T s n)) = true)
  | 0, _ => Or.inl rfl
  | n + 1, h => by
    unfold zfind
    split
    · rename_i g
      exact Or.inr ⟨by omega, g⟩
    · rcases zfind_c (T := T) (s := s) n (by omega) with e | e
      · exact Or.inl e
      · exact Or.inr ⟨by omega, e.2⟩
theorem zfind_no {T : zT} {s : Int} : ∀ n, n ≤ 12 → zfind T s n = 12 → ∀ w, w < n → ¬ zMb T s w (zln w) = true
  | 0, _, _, w, h => absurd h (Nat.not_lt_zero w)
  | n + 1, h, e, w, hw => by
    unfold zfind at e
    split at e
    · omega
    · rename_i g
      by_cases k : w = n
      · rw [k]
        exact g
      · exact zfind_no n (by omega) e w (by omega)
theorem zfind_u {T : zT} {s : Int} {w : Nat} (hw : w < 12) (h : zMb T s w (zln w) = true) : zfind T s 12 = w := by
  rcases zfind_c (T := T) (s := s) 12 (Nat.le_refl _) with e | ⟨e1, e2⟩
  · exact absurd h (zfind_no 12 (Nat.le_refl _) e w hw)
  · by_cases l : zln w ≤ zln (zfind T s 12)
    · exact (zpf hw e1 h l (zMb_le e2 l)).symm
    · exact zpf e1 hw e2 (by omega) (zMb_le h (by omega))
theorem zfind_n {T : zT} {s : Int} (h : ∀ w, w < 12 → ¬ zMb T s w (zln w) = true) : zfind T s 12 = 12 := by
  rcases zfind_c (T := T) (s := s) 12 (Nat.le_refl _) with e | ⟨e1, e2⟩
  · exact e
  · exact absurd e2 (h _ e1)
theorem zfar_e {T : zT} {s : Int} {F : Nat} (h0 : F = 0 ∨ zany T s F 12 = true) (h1 : ∀ n, F < n → ¬ zany T s n 12 = true) : ∀ n, F ≤ n → zfar T s n = F
  | 0, h => by
    show 0 = F
    omega
  | n + 1, h => by
    unfold zfar
    by_cases e : F = n + 1
    · rw [e] at h0
      rw [if_pos (h0.resolve_left (by omega)), e]
    · rw [if_neg (h1 _ (by omega))]
      exact zfar_e h0 h1 n (by omega)
theorem zany_le {T : zT} {s : Int} {n k : Nat} (h : zany T s n 12 = true) (hk : k ≤ n) : zany T s k 12 = true := by
  obtain ⟨w, h1, h2, h3⟩ := (zany_i 12).mp h
  exact (zany_i 12).mpr ⟨w, h1, by omega, zMb_le h3 hk⟩
theorem zdgs_b {T : zT} {q : Int} (h : zdg T q) : 0 ≤ (zdgs T q).1 ∧ (zdgs T q).1 ≤ 99 ∧ q < (zdgs T q).2 ∧ (zdgs T q).2 ≤ T.1 := by
  unfold zdgs
  split <;> omega
theorem znum_b {T : zT} {q lo hi : Int} (h : ¬ (znum T q lo hi).1 = -1) : (zis T q 32 ∧ zdg T (q + 1) ∧ znum T q lo hi = zdgs T (q + 1)) ∧ (0 ≤ (znum T q lo hi).1 ∧ lo ≤ (znum T q lo hi).1 ∧ (znum T q lo hi).1 ≤ hi ∧ (znum T q lo hi).1 ≤ 99) ∧ q + 1 < (znum T q lo hi).2 ∧ (znum T q lo hi).2 ≤ T.1 := by
  unfold znum at h ⊢
  by_cases g1 : zis T q 32
  · rw [if_neg (fun z => z g1)] at h ⊢
    by_cases g2 : zdg T (q + 1)
    · rw [if_neg (fun z => z g2)] at h ⊢
      by_cases g3 : (zdgs T (q + 1)).1 < lo ∨ hi < (zdgs T (q + 1)).1
      · rw [if_pos g3] at h
        exact absurd rfl h
      · rw [if_neg g3]
        have b := zdgs_b g2
        exact ⟨⟨g1, g2, rfl⟩, by omega, b.2.2⟩
    · rw [if_pos g2] at h
      exact absurd rfl h
  · rw [if_pos g1] at h
    exact absurd rfl h
theorem znum_f {T : zT} {q lo hi : Int} (hq : 0 ≤ q) (h : (znum T q lo hi).1 = -1) : 0 ≤ (znum T q lo hi).2 := by
  unfold znum at h ⊢
  split
  · exact hq
  · split
    · show 0 ≤ q + 1
      omega
    · split
      · show 0 ≤ q + 1
        omega
      · rename_i g1 g2 g3
        rw [if_neg g1, if_neg g2, if_neg g3] at h
        have b := zdgs_b (Decidable.not_not.mp g2)
        omega
/-- an ITEM that stands: its place is behind it, its walk keeps the bounds -/
def zIg (T : zT) (q : Int) (r : zIt) : Prop := (¬ r.1 = -1 → 0 ≤ r.1) ∧ (r.1 = -1 → q ≤ r.2.1 ∧ r.2.1 ≤ T.1 ∧ zB r.2.2)
theorem zone_g {T : zT} {q lo hi : Int} {f : zS} {g : Int → zS} (hq : 0 ≤ q) (hg : ∀ v, 0 ≤ v → lo ≤ v → v ≤ hi → v ≤ 99 → zB (g v)) : zIg T q (zone (znum T q lo hi) g f) := by
  unfold zone
  by_cases e : (znum T q lo hi).1 = -1
  · rw [if_pos e]
    have b := znum_f hq e
    exact ⟨fun _ => b, fun z => absurd z (by show ¬ (znum T q lo hi).2 = -1; omega)⟩
  · rw [if_neg e]
    have b := znum_b e
    exact ⟨fun z => absurd rfl z, fun _ => ⟨by have := b.2.2.1; show q ≤ (znum T q lo hi).2; omega, b.2.2.2, hg _ b.2.1.1 b.2.1.2.1 b.2.1.2.2.1 b.2.1.2.2.2⟩⟩
theorem zIg_le {T : zT} {q q2 : Int} {r : zIt} (h : zIg T q2 r) (hq : q ≤ q2) : zIg T q r := ⟨h.1, fun e => ⟨by have := (h.2 e).1; omega, (h.2 e).2⟩⟩
theorem ztwo_g {T : zT} {q lo hi : Int} {f : zS} {g : Int → Int → zIt} (hq : 0 ≤ q) (hg : ∀ v q2, 0 ≤ v → lo ≤ v → v ≤ hi → v ≤ 99 → q + 1 < q2 → q2 ≤ T.1 → zIg T q (g v q2)) : zIg T q (ztwo (znum T q lo hi) g f) := by
  unfold ztwo
  by_cases e : (znum T q lo hi).1 = -1
  · rw [if_pos e]
    have b := znum_f hq e
    exact ⟨fun _ => b, fun z => absurd z (by show ¬ (znum T q lo hi).2 = -1; omega)⟩
  · rw [if_neg e]
    have b := znum_b e
    exact hg _ _ b.2.1.1 b.2.1.2.1 b.2.1.2.2.1 b.2.1.2.2.2 b.2.2.1 b.2.2.2
theorem zB_til {f : zS} {k : Nat} (h : zB f) : zB (zU f 1 k 1) := zB_stile h (by decide)
theorem zarg_g {T : zT} {f : zS} {w : Nat} {q : Int} (hB : zB f) (hr0 : zroomB f w = true) (hw : w < 12) (hq : 0 ≤ q) (hT : q ≤ T.1) : zIg T q (zarg T f w q) := by
  have hr := zroom_i.mp hr0
  have b := hB.1
  unfold zarg
  by_cases e0 : w = 0
  · rw [if_pos e0]
    exact zone_g hq (fun v a1 a2 a3 a4 => zB_addF hB (hr.1 (Or.inl e0)) (by omega) (by decide))
  rw [if_neg e0]
  by_cases e1 : w = 1
  · rw [if_pos e1]
    exact zone_g hq (fun v a1 a2 a3 a4 => zB_addF hB (hr.1 (Or.inr e1)) (by omega) (by decide))
  rw [if_neg e1]
  by_cases e2 : w = 2
  · rw [if_pos e2]
    exact ⟨fun z => absurd rfl z, fun _ => ⟨Int.le_refl _, hT, zB_til hB⟩⟩
  rw [if_neg e2]
  by_cases e3 : w = 3
  · rw [if_pos e3]
    exact ztwo_g hq (fun a q2 a1 a2 a3 a4 a5 a6 => zIg_le (q2 := q2) (zone_g (by omega) (fun v c1 c2 c3 c4 => zB_addP hB (hr.2.2 e3) (by omega) (by omega))) (by omega))
  rw [if_neg e3]
  by_cases e4 : w = 4
  · rw [if_pos e4]
    exact ztwo_g hq (fun a q2 a1 a2 a3 a4 a5 a6 => zIg_le (q2 := q2) (zone_g (by omega) (fun v c1 c2 c3 c4 => zB_tire hB (by omega))) (by omega))
  rw [if_neg e4]
  by_cases e5 : w = 5
  · rw [if_pos e5]
    exact zone_g hq (fun v a1 a2 a3 a4 => zB_bag hB (by omega))
  rw [if_neg e5]
  by_cases e6 : w = 6
  · rw [if_pos e6]
    refine ztwo_g hq (fun a q2 a1 a2 a3 a4 a5 a6 => ?_)
    by_cases m : zmay f a
    · rw [if_pos m]
      exact ⟨fun z => absurd rfl z, fun _ => ⟨by show q ≤ q2; omega, a6, zB_act hB m⟩⟩
    · rw [if_neg m]
      exact ⟨fun _ => by show 0 ≤ q + 1; omega, fun z => absurd z (by show ¬ q + 1 = -1; omega)⟩
  rw [if_neg e6]
  exact zone_g hq (fun v a1 a2 a3 a4 => zB_ask hB (by omega) ⟨a2, a3⟩)
theorem zfind_l {T : zT} {s : Int} (h : ¬ zfind T s 12 = 12) : zfind T s 12 < 12 ∧ s + zln (zfind T s 12) ≤ T.1 ∧ 2 ≤ zln (zfind T s 12) := by
  rcases zfind_c (T := T) (s := s) 12 (Nat.le_refl _) with e | ⟨e1, e2⟩
  · exact absurd e h
  · have l := zln_b _ e1
    have k := ((zMb_i _).mp e2 (zln (zfind T s 12) - 1) (by omega)).1
    exact ⟨e1, by omega, l.1⟩
theorem zitem_g {T : zT} {f : zS} {s : Int} (hB : zB f) (hs : 0 ≤ s) : zIg T (s + 2) (zitem T f s) := by
  unfold zitem
  by_cases e : zfind T s 12 = 12
  · rw [if_pos e]
    exact ⟨fun _ => by show 0 ≤ s + (zfar T s 8 : Nat); omega, fun z => absurd z (by show ¬ s + (zfar T s 8 : Nat) = -1; omega)⟩
  rw [if_neg e]
  have l := zfind_l e
  by_cases r : zroomB f (zfind T s 12) = true
  · rw [if_neg (fun z => z r)]
    exact zIg_le (zarg_g hB r l.1 (by omega) l.2.1) (by omega)
  · rw [if_pos r]
    exact ⟨fun _ => hs, fun z => absurd z (by show ¬ s = -1; omega)⟩
end
section
/-! part 88: the class reads a text, exactly -/
def zTx (T : zT) (m : zf_Me) : Prop := (m.1 35 2).toInt = T.1 ∧ T.1 ≤ 160 ∧ ∀ i : Nat, (i : Int) < T.1 → (m.1 43 i).toInt = T.2 i
def zPs (T : zT) (s : Int) (m : zf_Me) : Prop := zTx T m ∧ (m.1 35 3).toInt = s ∧ 0 ≤ s ∧ s ≤ T.1
def zfk (m m' : zf_Me) : Prop := zfr (fun a => 35 ≤ a ∧ a ≤ 42) m m' ∧ m'.1 35 2 = m.1 35 2 ∧ m'.1 35 5 = m.1 35 5
theorem zfk_refl {m : zf_Me} : zfk m m := ⟨zfr_refl, rfl, rfl⟩
theorem zfk_t {a b c : zf_Me} (h : zfk a b) (k : zfk b c) : zfk a c := ⟨zfr_trans h.1 k.1, k.2.1.trans h.2.1, k.2.2.trans h.2.2⟩
theorem zfk_u {m m' : zf_Me} {k : Nat} {x : Int32} (h : zfk m m') (h2 : ¬ k = 2) (h5 : ¬ k = 5) : zfk m (zf_u m' 35 k x) := ⟨zfr_u h.1 (by omega), (zf_u4 (fun z => h2 z.symm)).trans h.2.1, (zf_u4 (fun z => h5 z.symm)).trans h.2.2⟩
theorem zfk_w {m m' : zf_Me} (f : zfr (fun a => 36 ≤ a ∧ a ≤ 42) m m') : zfk m m' := ⟨zfr_mono f (fun a ha => by omega), by rw [f.1 35 (by omega)], by rw [f.1 35 (by omega)]⟩
theorem zTx_k {T : zT} {m m' : zf_Me} (h : zTx T m) (f : zfk m m') : zTx T m' := ⟨by rw [f.2.1]; exact h.1, h.2.1, fun i hi => by rw [f.1.1 43 (by omega)]; exact h.2.2 i hi⟩
section
variable {m : zf_Me} {T : zT} {s : Int}
theorem zPs_l (h : zPs T s m) (hs : s < T.1) : (m.1 43 (m.1 35 3).toInt.toNat).toInt = T.2 s.toNat := by
  rw [h.2.1]
  exact h.1.2.2 _ (by have := h.2.2.1; omega)
theorem zPs_pl {m' : zf_Me} (h : zTx T m') {p : Int} (e : (m'.1 35 3).toInt = p) (h0 : 0 ≤ p) (h1 : p ≤ T.1) : zPs T p m' := ⟨h, e, h0, h1⟩
theorem zs_39x (h : zPs T s m) {c : Int32} {Q : Bool → zf_Me → Prop} (ht : zis T s c.toInt → ∀ m', zfk m m' → zv 36 37 42 m' = zv 36 37 42 m → zPs T (s + 1) m' → m'.1 35 6 = m.1 35 6 → Q true m') (hf : ¬ zis T s c.toInt → ∀ m', zfk m m' → zv 36 37 42 m' = zv 36 37 42 m → (m'.1 35 6).toInt = s → zPs T s m' → Q false m') : wp_39 c m Q := by
  have e1 : (1 : Int32).toInt = 1 := rfl
  obtain ⟨hx, hp, h0, h1⟩ := h
  have sz := hx.1
  have sl := hx.2.1
  have bad : ¬ zis T s c.toInt → ∀ m1, m1 = zf_u m 35 6 (m.1 35 3) → Q false m1 := fun n m1 q1 => by
    rw [q1]
    have f := zfk_u (k := 6) (x := m.1 35 3) (zfk_refl (m := m)) (by decide) (by decide)
    exact hf n _ f zv36_35 (by rw [zf_u3]; exact hp) (zPs_pl (zTx_k hx f) (by rw [zf_u4 (by decide)]; exact hp) h0 h1)
  refine ⟨fun g => bad (fun z => by have := z.1; omega), fun g => ⟨by omega, fun e m3 q3 => ?_, fun ne => bad (fun z => ne ?_)⟩⟩
  · have a := fb_addI (x := m.1 35 3) (y := 1) (by omega) (by omega)
    have l := zPs_l ⟨hx, hp, h0, h1⟩ (by omega)
    rw [q3]
    have f := zfk_u (k := 3) (x := m.1 35 3 + 1) (zfk_refl (m := m)) (by decide) (by decide)
    exact ht ⟨by omega, by rw [← l]; exact e⟩ _ f zv36_35 (zPs_pl (zTx_k hx f) (by rw [zf_u3]; omega) (by omega) (by omega)) (zf_u4 (by decide))
  · rw [zPs_l ⟨hx, hp, h0, h1⟩ z.1]
    exact z.2
theorem zs_41x (h : zPs T s m) {Q : Bool → zf_Me → Prop} (hq : ∀ b, (b = true ↔ zdg T s) → Q b m) : wp_41 m Q := by
  obtain ⟨hx, hp, h0, h1⟩ := h
  have sz := hx.1
  have sl := hx.2.1
  refine ⟨fun g => hq false (zb_f (fun z => by have := z.1; omega)), fun g => ?_⟩
  have l := zPs_l ⟨hx, hp, h0, h1⟩ (by omega)
  exact ⟨by omega, fun g2 => hq false (zb_f (fun z => by have := z.2.1; omega)), fun g2 => ⟨by omega, fun g3 => hq false (zb_f (fun z => by have := z.2.2; omega)), fun g3 => hq true (zb_t ⟨by omega, by omega, by omega⟩)⟩⟩
theorem zs_40x (h : zPs T s m) {lo hi : Int32} {Q : Int32 → zf_Me → Prop} (hq : ∀ (x : Int32) (m' : zf_Me), zfk m m' → zv 36 37 42 m' = zv 36 37 42 m → x.toInt = (znum T s lo.toInt hi.toInt).1 → ((znum T s lo.toInt hi.toInt).1 = -1 → (m'.1 35 6).toInt = (znum T s lo.toInt hi.toInt).2) → (¬ (znum T s lo.toInt hi.toInt).1 = -1 → m'.1 35 6 = m.1 35 6 ∧ zPs T (znum T s lo.toInt hi.toInt).2 m' ∧ (m'.1 35 4).toInt = s + 1) → Q x m') : wp_40 lo hi m Q := by
  have e0 : (0 : Int32).toInt = 0 := rfl
  have e1 : (1 : Int32).toInt = 1 := rfl
  have e10 : (10 : Int32).toInt = 10 := rfl
  have e48 : (48 : Int32).toInt = 48 := rfl
  have en : (-1 : Int32).toInt = -1 := rfl
  refine zs_39x (c := 32) h (fun hz m2 f2 z2 h2 k2 => ⟨fun _ m3 q3 => ?_, fun z => (nomatch z)⟩) (fun hz m2 f2 z2 k2 _ => ⟨fun z => (nomatch z), fun _ => ?_⟩)
  · have f3 : zfk m m3 := by rw [q3]; exact zfk_u f2 (by decide) (by decide)
    have z3 : zv 36 37 42 m3 = zv 36 37 42 m := by rw [q3, zv36_35, z2]
    have p3 : (m3.1 35 3).toInt = s + 1 := by rw [q3, zf_u4 (by decide)]; exact h2.2.1
    have h3 : zPs T (s + 1) m3 := zPs_pl (zTx_k h.1 f3) p3 h2.2.2.1 h2.2.2.2
    have n3 : (m3.1 35 4).toInt = s + 1 := by rw [q3, zf_u3]; exact h2.2.1
    have k3 : m3.1 35 6 = m.1 35 6 := by rw [q3, zf_u4 (by decide)]; exact k2
    have fin : ∀ (x : Int32) (mj : zf_Me) (q : Int), zfk m mj → zv 36 37 42 mj = zv 36 37 42 m → zPs T q mj → mj.1 35 6 = m.1 35 6 → (mj.1 35 4).toInt = s + 1 → (q = s + 1 → ¬ zdg T (s + 1)) → (¬ q = s + 1 → zdg T (s + 1) ∧ zdgs T (s + 1) = (x.toInt, q)) → wq_40_71 lo hi x mj Q := by
      intro x mj q fj zj hj kj nj c1 c2
      have no : znum T s lo.toInt hi.toInt = (-1, s + 1) → ∀ m', m' = zf_u mj 35 6 (mj.1 35 4) → Q (-1) m' := fun hn m' q' => by
        rw [q']
        exact hq _ _ (zfk_u fj (by decide) (by decide)) (by rw [zv36_35, zj]) (by rw [hn]; rfl) (fun _ => by rw [hn, zf_u3]; exact nj) (fun z => absurd (by rw [hn]) z)
      have pj := hj.2.1
      refine ⟨fun e => no ?_, fun ne => ?_⟩
      · unfold znum
        rw [if_neg (fun z => z hz), if_pos (c1 (by omega))]
      · have c := c2 (by omega)
        have N : znum T s lo.toInt hi.toInt = if x.toInt < lo.toInt ∨ hi.toInt < x.toInt then (-1, s + 1) else (x.toInt, q) := by
          unfold znum
          rw [if_neg (fun z => z hz), if_neg (fun z => z c.1), c.2]
        have b := zdgs_b c.1
        rw [c.2] at b
        have b1 : 0 ≤ x.toInt := b.1
        refine ⟨fun g => no (by rw [N, if_pos (Or.inl g)]), fun g => ⟨fun g2 => ?_, fun g2 => no (by rw [N, if_pos (Or.inr g2)])⟩⟩
        rw [if_neg (by omega)] at N
        exact hq x mj fj zj (by rw [N]) (fun z => by rw [N] at z; exact absurd (show x.toInt = -1 from z) (by omega)) (fun _ => by rw [N]; exact ⟨kj, hj, nj⟩)
    refine ⟨4, fun z => absurd z (by decide), fun _ => zs_41x h3 (fun b hb => ⟨fun e => fin 0 m3 (s + 1) f3 z3 h3 k3 n3 (fun _ => zno hb e) (fun z => absurd rfl z), fun e => ?_⟩)⟩
    have d := hb.mp e
    have s3 := h3.1.1
    have l3 := zPs_l h3 d.1
    have s2 := h3.1.2.1
    have s0 := h.2.2.1
    refine ⟨by omega, fun m13 q13 => ?_⟩
    have a13 := fb_addI (x := m3.1 35 3) (y := 1) (by omega) (by omega)
    have f13 : zfk m m13 := by rw [q13]; exact zfk_u f3 (by decide) (by decide)
    have z13 : zv 36 37 42 m13 = zv 36 37 42 m := by rw [q13, zv36_35, z3]
    have h13 : zPs T (s + 1 + 1) m13 := zPs_pl (zTx_k h.1 f13) (by rw [q13, zf_u3]; omega) (by omega) (by omega)
    have n13 : (m13.1 35 4).toInt = s + 1 := by rw [q13, zf_u4 (by decide)]; exact n3
    have k13 : m13.1 35 6 = m.1 35 6 := by rw [q13, zf_u4 (by decide)]; exact k3
    have x1 : (0 * 10 + m3.1 43 (m3.1 35 3).toInt.toNat - 48).toInt = T.2 (s + 1).toNat - 48 := by
      have sm : ((0 : Int32) * 10).toInt = 0 := by decide
      have sa := fb_addI (x := 0 * 10) (y := m3.1 43 (m3.1 35 3).toInt.toNat) (by omega) (by omega)
      have ss := fb_subI (x := 0 * 10 + m3.1 43 (m3.1 35 3).toInt.toNat) (y := 48) (by omega) (by omega)
      omega
    refine ⟨fun z => absurd z (by decide), fun _ => zs_41x h13 (fun b2 hb2 => ⟨fun e2 => fin _ m13 (s + 1 + 1) f13 z13 h13 k13 n13 (fun z => by omega) (fun _ => ⟨d, ?_⟩), fun e2 => ?_⟩)⟩
    · unfold zdgs
      rw [if_neg (zno hb2 e2), x1]
    · have d2 := hb2.mp e2
      have l13 := zPs_l h13 d2.1
      have s13 := h13.1.1
      refine ⟨by have := h13.2.1; omega, fun m14 q14 => ?_⟩
      have a14 := fb_addI (x := m13.1 35 3) (y := 1) (by have := h13.2.1; omega) (by have := h13.2.1; omega)
      have f14 : zfk m m14 := by rw [q14]; exact zfk_u f13 (by decide) (by decide)
      have z14 : zv 36 37 42 m14 = zv 36 37 42 m := by rw [q14, zv36_35, z13]
      have h14 : zPs T (s + 1 + 2) m14 := zPs_pl (zTx_k h.1 f14) (by rw [q14, zf_u3]; have := h13.2.1; omega) (by omega) (by omega)
      have n14 : (m14.1 35 4).toInt = s + 1 := by rw [q14, zf_u4 (by decide)]; exact n13
      have k14 : m14.1 35 6 = m.1 35 6 := by rw [q14, zf_u4 (by decide)]; exact k13
      refine ⟨fun _ => fin _ m14 (s + 1 + 2) f14 z14 h14 k14 n14 (fun z => by omega) (fun _ => ⟨d, ?_⟩), fun z => absurd z (by decide)⟩
      unfold zdgs
      rw [if_pos d2]
      have sm := fb_mulI (x := 0 * 10 + m3.1 43 (m3.1 35 3).toInt.toNat - 48) (y := 10) (by rw [x1, e10]; omega) (by rw [x1, e10]; omega)
      rw [x1, e10] at sm
      have sa := fb_addI (x := (0 * 10 + m3.1 43 (m3.1 35 3).toInt.toNat - 48) * 10) (y := m13.1 43 (m13.1 35 3).toInt.toNat) (by omega) (by omega)
      have ss := fb_subI (x := (0 * 10 + m3.1 43 (m3.1 35 3).toInt.toNat - 48) * 10 + m13.1 43 (m13.1 35 3).toInt.toNat) (y := 48) (by omega) (by omega)
      have x2 : ((0 * 10 + m3.1 43 (m3.1 35 3).toInt.toNat - 48) * 10 + m13.1 43 (m13.1 35 3).toInt.toNat - 48).toInt = (T.2 (s + 1).toNat - 48) * 10 + T.2 (s + 1 + 1).toNat - 48 := by omega
      rw [x2]
  · have N : znum T s lo.toInt hi.toInt = (-1, s) := if_pos hz
    exact hq _ m2 f2 z2 (by rw [N]; rfl) (fun _ => by rw [N]; exact k2) (fun z => absurd (by rw [N]) z)
theorem zs_28x {w : Int32} (hw : 0 ≤ w.toInt ∧ w.toInt < 12) {Q : Bool → zf_Me → Prop} (hq0 : ∀ b, (b = true ↔ zroomB (zv 36 37 42 m) w.toInt.toNat = true) → Q b m) : wp_28 w m Q := by
  have hq : ∀ b, (b = true ↔ ((w.toInt.toNat = 0 ∨ w.toInt.toNat = 1 → zv 36 37 42 m 5 5 < 24) ∧ (w.toInt.toNat = 2 → 0 < zv 36 37 42 m 5 5) ∧ (w.toInt.toNat = 3 → zv 36 37 42 m 5 6 < 6))) → Q b m := fun b hb => hq0 b (by rw [zroom_i]; exact hb)
  have p5 : zv 36 37 42 m 5 5 = (m.1 37 4).toInt := rfl
  have p6 : zv 36 37 42 m 5 6 = (m.1 37 5).toInt := rfl
  refine ⟨fun g => hq true (zb_t ?_), fun g => ⟨fun k => hq false (zb_f ?_), fun k => hq true (zb_t ?_)⟩, fun g => ⟨fun k => hq false (zb_f ?_), fun k => hq true (zb_t ?_)⟩, fun g => ⟨fun k => hq false (zb_f ?_), fun k => hq true (zb_t ?_)⟩, fun g => ⟨fun k => hq false (zb_f ?_), fun k => hq true (zb_t ?_)⟩⟩ <;> omega
theorem zs_37x (h : zTx T m) {t : Nat} (ht : t < 12) {p n : Int32} (hs : 0 ≤ p.toInt ∧ p.toInt ≤ 160) (hn : 1 ≤ n.toInt ∧ n.toInt ≤ 8) {Q : Bool → zf_Me → Prop} (hq : ∀ b, (b = true ↔ n.toInt.toNat ≤ zln t ∧ zMb T p.toInt t n.toInt.toNat = true) → Q b m) : wp_37 t p n m Q := by
  have e1 : (1 : Int32).toInt = 1 := rfl
  have sz := h.1
  have sl := h.2.1
  have l := (zk_len t ht).1
  have zl : zln t = zx_sl.getD t 0 := rfl
  have lb := zk_lenb t ht
  have a := fb_addI (x := p) (y := n) (by omega) (by omega)
  refine (⟨fun g => hq false (zb_f (fun z => by have := z.1; omega)), fun g => ⟨fun g2 => ?_, fun g2 => hq false (zb_f (fun z => ?_))⟩⟩ : (n.toInt > (Int32.ofNat (zx_sl.getD t 0)).toInt → Q false m) ∧ (n.toInt ≤ (Int32.ofNat (zx_sl.getD t 0)).toInt → (((p + n)).toInt ≤ ((m.1 35 2)).toInt → (∃ n23, wq_37_23 t p n Q n23 0 m)) ∧ (((p + n)).toInt > ((m.1 35 2)).toInt → Q false m)))
  · have lp : ∀ (k : Nat) (v : Int32), 0 ≤ v.toInt → v.toInt ≤ n.toInt → n.toInt - v.toInt < k → (∀ i : Nat, (i : Int) < v.toInt → zis T (p.toInt + i) (zch t i)) → wq_37_23 t p n Q k v m := by
      intro k
      induction k with
      | zero => intro v k0 k1 k2; omega
      | succ k ih =>
        intro v k0 k1 k2 k3
        refine ⟨fun g3 => hq true (zb_t ⟨by omega, (zMb_i _).mpr (fun i hi => k3 i (by omega))⟩), fun g3 => ?_⟩
        have b := fb_addI (x := p) (y := v) (by omega) (by omega)
        have c := fb_addI (x := v) (y := 1) (by omega) (by omega)
        have le := h.2.2 (p + v).toInt.toNat (by omega)
        have en : (p + v).toInt.toNat = (p.toInt + (v.toInt.toNat : Nat)).toNat := by omega
        refine ⟨by omega, ⟨by omega, by omega⟩, fun e => ih _ (by omega) (by omega) (by omega) (fun i hi => ?_), fun ne => hq false (zb_f (fun z => ne ?_))⟩
        · by_cases q : i = v.toInt.toNat
          · rw [q]
            refine ⟨by omega, ?_⟩
            rw [← en, ← le]
            exact e
          · exact k3 i (by omega)
        · have y := (zMb_i _).mp z.2 v.toInt.toNat (by omega)
          rw [le, en]
          exact y.2
    exact ⟨10, lp 10 0 (by decide) (by show (0 : Int) ≤ _; omega) (by show n.toInt - 0 < _; omega) (fun i hi => absurd (show (i : Int) < 0 from hi) (by omega))⟩
  · have y := ((zMb_i _).mp z.2 (n.toInt.toNat - 1) (by omega)).1
    omega
theorem zs_36x (h : zTx T m) {p n : Int32} (hs : 0 ≤ p.toInt ∧ p.toInt ≤ 160) (hn : 1 ≤ n.toInt ∧ n.toInt ≤ 8) {Q : Int32 → zf_Me → Prop} (hq : ∀ x : Int32, (x.toInt = -1 ∧ ¬ zany T p.toInt n.toInt.toNat 12 = true ∨ (0 ≤ x.toInt ∧ x.toInt < 12) ∧ n.toInt.toNat ≤ zln x.toInt.toNat ∧ zMb T p.toInt x.toInt.toNat n.toInt.toNat = true) → Q x m) : wp_36 p n m Q := by
  have e1 : (1 : Int32).toInt = 1 := rfl
  have lp : ∀ (k : Nat) (v : Int32), 0 ≤ v.toInt → v.toInt ≤ 12 → 12 - v.toInt < k → (∀ w : Nat, (w : Int) < v.toInt → ¬ (n.toInt.toNat ≤ zln w ∧ zMb T p.toInt w n.toInt.toNat = true)) → wq_36_2 p n Q k v m := by
    intro k
    induction k with
    | zero => intro v k0 k1 k2; omega
    | succ k ih =>
      intro v k0 k1 k2 k3
      refine ⟨fun g => hq (-1) (Or.inl ⟨rfl, fun z => ?_⟩), fun g => zy_38 (fun t ht et => zs_37x h ht hs hn (fun b hb => ⟨fun e => ?_, fun e => ?_⟩))⟩
      · obtain ⟨w, w1, w2⟩ := (zany_i 12).mp z
        exact k3 w (by omega) w2
      · have c := fb_addI (x := v) (y := 1) (by omega) (by omega)
        refine ih _ (by omega) (by omega) (by omega) (fun w hw => ?_)
        by_cases q : w = t
        · rw [q]
          exact zno hb e
        · have := et k0 g
          exact k3 w (by omega)
      · have tv := et k0 g
        have y := hb.mp e
        rw [show t = v.toInt.toNat by omega] at y
        exact hq v (Or.inr ⟨⟨k0, g⟩, y⟩)
  exact ⟨14, lp 14 0 (by decide) (by decide) (by decide) (fun w hw => absurd (show (w : Int) < 0 from hw) (by omega))⟩
theorem zs_35x (h : zPs T s m) {Q : Int32 → zf_Me → Prop} (hn : zfind T s 12 = 12 → ∀ m', zfk m m' → zv 36 37 42 m' = zv 36 37 42 m → (m'.1 35 6).toInt = s + zfar T s 8 → Q (-1) m') (hy : ∀ (x : Int32) (m' : zf_Me), (0 ≤ x.toInt ∧ x.toInt < 12) → zfind T s 12 = x.toInt.toNat → zfk m m' → zv 36 37 42 m' = zv 36 37 42 m → m'.1 35 6 = m.1 35 6 → zPs T (s + zln x.toInt.toNat) m' → Q x m') : wp_35 m Q := by
  have e1 : (1 : Int32).toInt = 1 := rfl
  obtain ⟨hx, hp, h0, h1⟩ := h
  have sl := hx.2.1
  have lp : ∀ (k : Nat) (v2 : Int32) (mj : zf_Me), 1 ≤ v2.toInt → v2.toInt ≤ 9 → 9 - v2.toInt < k → zfk m mj → zv 36 37 42 mj = zv 36 37 42 m → mj.1 35 6 = m.1 35 6 → (mj.1 35 3).toInt = s + v2.toInt - 1 → s + v2.toInt - 1 ≤ T.1 → (v2.toInt = 1 ∨ zany T s (v2.toInt.toNat - 1) 12 = true) → (∀ w, w < 12 → zln w < v2.toInt.toNat → ¬ zMb T s w (zln w) = true) → wq_35_7 Q k (m.1 35 3) v2 mj := by
    intro k
    induction k with
    | zero => intro v2 mj k0 k1 k2; omega
    | succ k ih =>
      intro v2 mj k0 k1 k2 fj zj kj pj bj a1 a2
      refine ⟨fun g => ?_, fun g => zs_36x (zTx_k hx fj) (by omega) (by omega) (fun x hx' => ⟨fun g2 m3 q3 => ?_, fun g2 m9 q9 => ?_⟩)⟩
      · obtain ⟨w, w1, w2, w3⟩ := (zany_i 12).mp (a1.resolve_left (by omega))
        have lw := zln_b w w1
        exact absurd (zMb_le w3 (by omega)) (a2 w w1 (by omega))
      · rw [hp] at hx'
        obtain ⟨x0, x1, x2⟩ := hx'.resolve_left (fun z => g2 z.1)
        have s3 := fb_addI (x := mj.1 35 3) (y := 1) (by omega) (by omega)
        have s2 := fb_addI (x := v2) (y := 1) (by omega) (by omega)
        have f3 : zfk m m3 := by rw [q3]; exact zfk_u fj (by decide) (by decide)
        have z3 : zv 36 37 42 m3 = zv 36 37 42 m := by rw [q3, zv36_35, zj]
        have k3 : m3.1 35 6 = m.1 35 6 := by rw [q3, zf_u4 (by decide)]; exact kj
        have p3 : (m3.1 35 3).toInt = s + v2.toInt := by rw [q3, zf_u3]; omega
        have bb : s + v2.toInt ≤ T.1 := by
          have := ((zMb_i _).mp x2 (v2.toInt.toNat - 1) (by omega)).1
          omega
        refine zy_38 (fun t ht et => ?_)
        have tx := et x0.1 x0.2
        have lt := (zk_len t ht).1
        have zt : zln x.toInt.toNat = zx_sl.getD t 0 := by rw [show x.toInt.toNat = t by omega]; rfl
        refine (⟨fun ne => ?_, fun eq => ?_⟩ : (¬ (Int32.ofNat (zx_sl.getD t 0)).toInt = v2.toInt → wq_35_7 Q k (m.1 35 3) (v2 + 1) m3) ∧ ((Int32.ofNat (zx_sl.getD t 0)).toInt = v2.toInt → Q x m3))
        · refine ih _ m3 (by omega) (by omega) (by omega) f3 z3 k3 (by omega) (by omega) (Or.inr ?_) (fun w w1 w2 z => ?_)
          · rw [show (v2 + 1).toInt.toNat - 1 = v2.toInt.toNat by omega]
            exact (zany_i 12).mpr ⟨x.toInt.toNat, by omega, x1, x2⟩
          · by_cases q : zln w < v2.toInt.toNat
            · exact a2 w w1 q z
            · have ew : zln w = v2.toInt.toNat := by omega
              have := zpf (T := T) (s := s) w1 (show x.toInt.toNat < 12 by omega) z (by omega) (zMb_le x2 (by omega))
              rw [this] at ew
              omega
        · have c : zMb T s x.toInt.toNat (zln x.toInt.toNat) = true := by
            rw [show zln x.toInt.toNat = v2.toInt.toNat by omega]
            exact x2
          exact hy x m3 x0 (zfind_u (by omega) c) f3 z3 k3 (zPs_pl (zTx_k hx f3) (by omega) (by omega) (by omega))
      · rw [hp] at hx'
        have y := (hx'.resolve_right (fun z => by have := z.1.1; omega)).2
        have nf : zfind T s 12 = 12 := zfind_n (fun w w1 z => by
          by_cases q : zln w < v2.toInt.toNat
          · exact a2 w w1 q z
          · exact y ((zany_i 12).mpr ⟨w, w1, by omega, zMb_le z (by omega)⟩))
        have fa : zfar T s 8 = v2.toInt.toNat - 1 := zfar_e (a1.elim (fun z => Or.inl (by omega)) Or.inr) (fun n n1 z => y (zany_le z (by omega))) 8 (by omega)
        rw [q9]
        exact hn nf _ (zfk_u fj (by decide) (by decide)) (by rw [zv36_35, zj]) (by rw [zf_u3, pj, fa]; omega)
  exact ⟨10, lp 10 1 m (by decide) (by decide) (by decide) zfk_refl rfl rfl (by rw [e1, hp]; omega) (by rw [e1]; omega) (Or.inl rfl) (fun w w1 w2 => by have := (zln_b w w1).1; exact absurd (show zln w < 1 from w2) (by omega))⟩
end
end
section
/-! part 89: the class reads an ITEM, a WAY, exactly -/
section
variable {m : zf_Me} {T : zT} {s : Int}
/-- what is so behind an ITEM -/
def zIo (T : zT) (m : zf_Me) (r : zIt) (m' : zf_Me) : Prop := zfk m m' ∧ (¬ r.1 = -1 → (m'.1 35 6).toInt = r.1) ∧ (r.1 = -1 → m'.1 35 6 = m.1 35 6 ∧ zv 36 37 42 m' = r.2.2 ∧ zPs T r.2.1 m')
theorem zIo_t {m m2 m' : zf_Me} {r : zIt} (f : zfk m m2) (k : m2.1 35 6 = m.1 35 6) (h : zIo T m2 r m') : zIo T m r m' := ⟨zfk_t f h.1, h.2.1, fun e => ⟨(h.2.2 e).1.trans k, (h.2.2 e).2⟩⟩
theorem zone_o {m' : zf_Me} {r : Int × Int} {g : Int → zS} {f : zS} (fk : zfk m m') (e1 : r.1 = -1) (hf : (m'.1 35 6).toInt = r.2) (h0 : 0 ≤ r.2) : zIo T m (zone r g f) m' := by
  have e : zone r g f = (r.2, 0, f) := if_pos e1
  rw [e]
  exact ⟨fk, fun _ => hf, fun z => absurd (show r.2 = -1 from z) (by omega)⟩
theorem ztwo_o {m' : zf_Me} {r : Int × Int} {g : Int → Int → zIt} {f : zS} (fk : zfk m m') (e1 : r.1 = -1) (hf : (m'.1 35 6).toInt = r.2) (h0 : 0 ≤ r.2) : zIo T m (ztwo r g f) m' := by
  have e : ztwo r g f = (r.2, 0, f) := if_pos e1
  rw [e]
  exact ⟨fk, fun _ => hf, fun z => absurd (show r.2 = -1 from z) (by omega)⟩
theorem zone_p {m2 m' : zf_Me} {r : Int × Int} {g : Int → zS} {f : zS} (f2 : zfk m m2) (k2 : m2.1 35 6 = m.1 35 6) (h2 : zPs T r.2 m2) (ne : ¬ r.1 = -1) (fw : zfr (fun a => 36 ≤ a ∧ a ≤ 42) m2 m') (z : zv 36 37 42 m' = g r.1) : zIo T m (zone r g f) m' := by
  have e : zone r g f = (-1, r.2, g r.1) := if_neg ne
  rw [e]
  have c : m'.1 35 = m2.1 35 := fw.1 35 (by omega)
  exact ⟨zfk_t f2 (zfk_w fw), fun z => absurd rfl z, fun _ => ⟨by rw [c]; exact k2, z, zTx_k h2.1 (zfk_w fw), by rw [c]; exact h2.2.1, h2.2.2⟩⟩
theorem zs_29x (h : zPs T s m) (hB : zB (zv 36 37 42 m)) (hf : (m.1 37 4).toInt < 24) {g : Int32} (hs : g.toInt = 1 ∨ g.toInt = -1) {Q : zf_Me → Prop} (hq : ∀ m', zIo T m (zone (znum T s 0 3) (fun v => zaddF (zv 36 37 42 m) (g.toInt * v) 0) (zv 36 37 42 m)) m' → Q m') : wp_29 g m Q := by
  have e0 : (0 : Int32).toInt = 0 := rfl
  have bv := zB_v hB
  have s0 := h.2.2.1
  refine zs_40x (lo := 0) (hi := 3) h (fun x m2 f2 z2 hx c1 c2 => ⟨fun g1 => hq m2 ?_, fun g1 => ?_⟩)
  · exact zone_o f2 (hx.symm.trans g1) (c1 (hx.symm.trans g1)) (znum_f s0 (hx.symm.trans g1))
  · have ne : ¬ (znum T s 0 3).1 = -1 := fun z => g1 (hx.trans z)
    have c := c2 ne
    have b := (znum_b ne).2.1
    rw [show (znum T s 0 3).1 = x.toInt from hx.symm] at b
    have c4 : (m2.1 37 4).toInt = (m.1 37 4).toInt := congrFun (congrFun z2 5) 5
    have sm : (g * x).toInt = g.toInt * x.toInt := fb_mulI (by rcases hs with k | k <;> rw [k] <;> omega) (by rcases hs with k | k <;> rw [k] <;> omega)
    refine zs_66 zd36 (by omega) (fun m' z' f' => hq m' (zone_p f2 c.1 c.2.1 ne (zfr_mono f' (fun a ha => by omega)) ?_))
    rw [z', z2, sm, ← show x.toInt = (znum T s 0 3).1 from hx]
    rfl
theorem zs_30x (h : zPs T s m) (hB : zB (zv 36 37 42 m)) (hf : (m.1 37 5).toInt < 6) {Q : zf_Me → Prop} (hq : ∀ m', zIo T m (ztwo (znum T s 0 6) (fun a q2 => zone (znum T q2 0 9) (fun v => zaddP (zv 36 37 42 m) a v) (zv 36 37 42 m)) (zv 36 37 42 m)) m' → Q m') : wp_30 m Q := by
  have en : (-1 : Int32).toInt = -1 := rfl
  have bv := zB_v hB
  have s0 := h.2.2.1
  refine zs_40x (lo := 0) (hi := 6) h (fun x m2 f2 z2 hx c1 c2 => ⟨fun g => ?_, fun g => ⟨fun _ => hq m2 ?_, fun k => absurd en k⟩⟩)
  · have ne : ¬ (znum T s 0 6).1 = -1 := fun z => g (hx.trans z)
    have c := c2 ne
    have b := (znum_b ne).2.1
    have e2 : ztwo (znum T s 0 6) (fun a q2 => zone (znum T q2 0 9) (fun v => zaddP (zv 36 37 42 m) a v) (zv 36 37 42 m)) (zv 36 37 42 m) = zone (znum T (znum T s 0 6).2 0 9) (fun v => zaddP (zv 36 37 42 m) (znum T s 0 6).1 v) (zv 36 37 42 m) := if_neg ne
    rw [e2] at hq
    have s2 := c.2.1.2.2.1
    refine zs_40x (lo := 0) (hi := 9) c.2.1 (fun y m4 f4 z4 hy d1 d2 => ⟨fun g2 => hq m4 ?_, fun g2 => ?_⟩)
    · exact zone_o (zfk_t f2 f4) (hy.symm.trans g2) (d1 (hy.symm.trans g2)) (znum_f s2 (hy.symm.trans g2))
    · have ne2 : ¬ (znum T (znum T s 0 6).2 0 9).1 = -1 := fun z => g2 (hy.trans z)
      have d := d2 ne2
      have c5 : (m4.1 37 5).toInt = (m.1 37 5).toInt := (congrFun (congrFun z4 5) 6).trans (congrFun (congrFun z2 5) 6)
      refine zs_44 zd36 (by omega) (fun m' z' f' => hq m' (zone_p (zfk_t f2 f4) (d.1.trans c.1) d.2.1 ne2 (zfr_mono f' (fun a ha => by omega)) ?_))
      rw [z', z4, z2, show x.toInt = (znum T s 0 6).1 from hx, show y.toInt = (znum T (znum T s 0 6).2 0 9).1 from hy]
  · exact ztwo_o f2 (hx.symm.trans g) (c1 (hx.symm.trans g)) (znum_f s0 (hx.symm.trans g))
theorem zs_31x (h : zPs T s m) (hB : zB (zv 36 37 42 m)) {Q : zf_Me → Prop} (hq : ∀ m', zIo T m (ztwo (znum T s 0 (zv 36 37 42 m 5 6 - 1)) (fun a q2 => zone (znum T q2 0 99) (fun v => zU (zv 36 37 42 m) 4 a.toNat v) (zv 36 37 42 m)) (zv 36 37 42 m)) m' → Q m') : wp_31 m Q := by
  have e0 : (0 : Int32).toInt = 0 := rfl
  have e1 : (1 : Int32).toInt = 1 := rfl
  have en : (-1 : Int32).toInt = -1 := rfl
  have bv := zB_v hB
  have s0 := h.2.2.1
  have p6 : zv 36 37 42 m 5 6 = (m.1 37 5).toInt := rfl
  have sb := fb_subI (x := m.1 37 5) (y := 1) (by omega) (by omega)
  have hi : (m.1 37 5 - 1).toInt = zv 36 37 42 m 5 6 - 1 := by omega
  refine zs_40x (lo := 0) (hi := m.1 37 5 - 1) h (fun x m2 f2 z2 hx c1 c2 => ?_)
  rw [e0, hi] at hx c1 c2
  refine ⟨fun g => ?_, fun g => ⟨fun _ => hq m2 ?_, fun k => absurd en k⟩⟩
  · have ne : ¬ (znum T s 0 (zv 36 37 42 m 5 6 - 1)).1 = -1 := fun z => g (hx.trans z)
    have c := c2 ne
    have b := (znum_b ne).2.1
    have e2 : ztwo (znum T s 0 (zv 36 37 42 m 5 6 - 1)) (fun a q2 => zone (znum T q2 0 99) (fun v => zU (zv 36 37 42 m) 4 a.toNat v) (zv 36 37 42 m)) (zv 36 37 42 m) = zone (znum T (znum T s 0 (zv 36 37 42 m 5 6 - 1)).2 0 99) (fun v => zU (zv 36 37 42 m) 4 (znum T s 0 (zv 36 37 42 m 5 6 - 1)).1.toNat v) (zv 36 37 42 m) := if_neg ne
    rw [e2] at hq
    have s2 := c.2.1.2.2.1
    refine zs_40x (lo := 0) (hi := 99) c.2.1 (fun y m4 f4 z4 hy d1 d2 => ⟨fun g2 => hq m4 ?_, fun g2 => ?_⟩)
    · exact zone_o (zfk_t f2 f4) (hy.symm.trans g2) (d1 (hy.symm.trans g2)) (znum_f s2 (hy.symm.trans g2))
    · have ne2 : ¬ (znum T (znum T s 0 (zv 36 37 42 m 5 6 - 1)).2 0 99).1 = -1 := fun z => g2 (hy.trans z)
      have d := d2 ne2
      refine ⟨by omega, fun m5 q5 => hq m5 (zone_p (zfk_t f2 f4) (d.1.trans c.1) d.2.1 ne2 (by rw [q5]; exact zfr_u zfr_refl (by omega)) ?_)⟩
      rw [q5, zv_a4 zd36 (by omega), z4, z2, hx, show y.toInt = (znum T (znum T s 0 (zv 36 37 42 m 5 6 - 1)).2 0 99).1 from hy]
  · exact ztwo_o f2 (hx.symm.trans g) (c1 (hx.symm.trans g)) (znum_f s0 (hx.symm.trans g))
theorem zs_32x (h : zPs T s m) (hB : zB (zv 36 37 42 m)) {Q : zf_Me → Prop} (hq : ∀ m', zIo T m (zone (znum T s 0 (zv 36 37 42 m 5 6 - 1)) (fun v => zU (zv 36 37 42 m) 5 7 v) (zv 36 37 42 m)) m' → Q m') : wp_32 m Q := by
  have e0 : (0 : Int32).toInt = 0 := rfl
  have e1 : (1 : Int32).toInt = 1 := rfl
  have bv := zB_v hB
  have s0 := h.2.2.1
  have p6 : zv 36 37 42 m 5 6 = (m.1 37 5).toInt := rfl
  have sb := fb_subI (x := m.1 37 5) (y := 1) (by omega) (by omega)
  have hi : (m.1 37 5 - 1).toInt = zv 36 37 42 m 5 6 - 1 := by omega
  refine zs_40x (lo := 0) (hi := m.1 37 5 - 1) h (fun x m2 f2 z2 hx c1 c2 => ?_)
  rw [e0, hi] at hx c1 c2
  refine ⟨fun g => hq m2 ?_, fun g m3 q3 => ?_⟩
  · exact zone_o f2 (hx.symm.trans g) (c1 (hx.symm.trans g)) (znum_f s0 (hx.symm.trans g))
  · have ne : ¬ (znum T s 0 (zv 36 37 42 m 5 6 - 1)).1 = -1 := fun z => g (hx.trans z)
    have c := c2 ne
    refine hq m3 (zone_p f2 c.1 c.2.1 ne (by rw [q3]; exact zfr_u zfr_refl (by omega)) ?_)
    rw [q3, zv_w2 zd36, z2, hx]
theorem zs_33x (h : zPs T s m) (hB : zB (zv 36 37 42 m)) {Q : zf_Me → Prop} (hq : ∀ m', zIo T m (ztwo (znum T s 0 9) (fun a q2 => if zmay (zv 36 37 42 m) a then (-1, q2, zact (zv 36 37 42 m) a) else (s + 1, 0, zv 36 37 42 m)) (zv 36 37 42 m)) m' → Q m') : wp_33 m Q := by
  have s0 := h.2.2.1
  refine zs_40x (lo := 0) (hi := 9) h (fun x m2 f2 z2 hx c1 c2 => ⟨fun g => ?_, fun g => hq m2 ?_⟩)
  · have ne : ¬ (znum T s 0 9).1 = -1 := fun z => g (hx.trans z)
    have c := c2 ne
    have e2 : ztwo (znum T s 0 9) (fun a q2 => if zmay (zv 36 37 42 m) a then (-1, q2, zact (zv 36 37 42 m) a) else (s + 1, 0, zv 36 37 42 m)) (zv 36 37 42 m) = if zmay (zv 36 37 42 m) x.toInt then (-1, (znum T s 0 9).2, zact (zv 36 37 42 m) x.toInt) else (s + 1, 0, zv 36 37 42 m) := by
      rw [show x.toInt = (znum T s 0 9).1 from hx]
      exact if_neg ne
    rw [e2] at hq
    have B2 : zB (zv 36 37 42 m2) := by rw [z2]; exact hB
    refine zs_52 B2 (fun b hb => ⟨fun e m5 q5 => hq m5 ?_, fun e => zs_56 zd36 B2 (hb.mp e) (fun m' z' f' => hq m' ?_)⟩)
    · have n : ¬ zmay (zv 36 37 42 m) x.toInt := by rw [← z2]; exact zno hb e
      rw [if_neg n, q5]
      exact ⟨zfk_u f2 (by decide) (by decide), fun _ => by rw [zf_u3]; exact c.2.2, fun z => absurd (show s + 1 = -1 from z) (by omega)⟩
    · have n : zmay (zv 36 37 42 m) x.toInt := by rw [← z2]; exact hb.mp e
      have fw : zfr (fun a => 36 ≤ a ∧ a ≤ 42) m2 m' := zfr_mono f' (fun a ha => by omega)
      have c35 : m'.1 35 = m2.1 35 := fw.1 35 (by omega)
      rw [if_pos n]
      exact ⟨zfk_t f2 (zfk_w fw), fun z => absurd rfl z, fun _ => ⟨by rw [c35]; exact c.1, by rw [z', z2], zTx_k c.2.1.1 (zfk_w fw), by rw [c35]; exact c.2.1.2.1, c.2.1.2.2⟩⟩
  · exact ztwo_o f2 (hx.symm.trans g) (c1 (hx.symm.trans g)) (znum_f s0 (hx.symm.trans g))
theorem zs_34x (h : zPs T s m) (hB : zB (zv 36 37 42 m)) {w : Int32} (hw : 0 ≤ w.toInt ∧ w.toInt < 5) {Q : zf_Me → Prop} (hq : ∀ m', zIo T m (zone (znum T s (zlo w.toInt.toNat) (zhi w.toInt.toNat)) (fun v => zask (zv 36 37 42 m) w.toInt.toNat v) (zv 36 37 42 m)) m' → Q m') : wp_34 w m Q := by
  have s0 := h.2.2.1
  have lo := zk_lo w.toInt.toNat (by omega)
  refine ⟨fun g => by omega, fun g => ⟨fun g2 => ⟨⟨g, g2⟩, ⟨g, g2⟩, zs_40x h (fun x m2 f2 z2 hx c1 c2 => ?_)⟩, fun g2 => by omega⟩⟩
  rw [lo.1, lo.2] at hx c1 c2
  refine ⟨fun g3 => hq m2 ?_, fun g3 => ?_⟩
  · exact zone_o f2 (hx.symm.trans g3) (c1 (hx.symm.trans g3)) (znum_f s0 (hx.symm.trans g3))
  · have ne : ¬ (znum T s (zlo w.toInt.toNat) (zhi w.toInt.toNat)).1 = -1 := fun z => g3 (hx.trans z)
    have c := c2 ne
    refine zs_46 zd36 ⟨g, g2⟩ (fun m' z' f' => hq m' (zone_p f2 c.1 c.2.1 ne (zfr_mono f' (fun a ha => by omega)) ?_))
    rw [z', z2, hx]
theorem zs_27x (h : zPs T s m) (hB : zB (zv 36 37 42 m)) {Q : zf_Me → Prop} (hq : ∀ m', zIo T m (zitem T (zv 36 37 42 m) s) m' → Q m') : wp_27 m Q := by
  have e1 : (1 : Int32).toInt = 1 := rfl
  have em : (-1 : Int32).toInt = -1 := rfl
  have s0 := h.2.2.1
  have bv := zB_v hB
  have p5 : zv 36 37 42 m 5 5 = (m.1 37 4).toInt := rfl
  have p6 : zv 36 37 42 m 5 6 = (m.1 37 5).toInt := rfl
  refine zs_35x h (fun nf m' f z k => ⟨fun g => absurd em g, fun _ => hq m' ?_⟩) (fun x m2 hx fx f2 z2 k2 h2 => ⟨fun g => zs_28x hx (fun b hb => ?_), fun g => by omega⟩)
  · have e : zitem T (zv 36 37 42 m) s = (s + zfar T s 8, 0, zv 36 37 42 m) := if_pos nf
    rw [e]
    exact ⟨f, fun _ => k, fun z => absurd (show s + (zfar T s 8 : Nat) = -1 from z) (by omega)⟩
  rw [z2] at hb
  have n12 : ¬ zfind T s 12 = 12 := by omega
  refine ⟨fun e => ?_, fun e m21 q21 => hq m21 ?_⟩
  · have r := hb.mp e
    have ei : zitem T (zv 36 37 42 m) s = zarg T (zv 36 37 42 m2) x.toInt.toNat (s + zln x.toInt.toNat) := by
      unfold zitem
      rw [if_neg n12, fx, if_neg (fun z => z r), z2]
    rw [ei] at hq
    have B2 : zB (zv 36 37 42 m2) := by rw [z2]; exact hB
    have c4 : (m2.1 37 4).toInt = (m.1 37 4).toInt := congrFun (congrFun z2 5) 5
    have c5 : (m2.1 37 5).toInt = (m.1 37 5).toInt := congrFun (congrFun z2 5) 6
    have W : ∀ m' r', zarg T (zv 36 37 42 m2) x.toInt.toNat (s + zln x.toInt.toNat) = r' → zIo T m2 r' m' → Q m' := fun m' r' er o => hq m' (by rw [er]; exact zIo_t f2 k2 o)
    unfold zarg at W
    refine ⟨fun k => ?_, fun k => zs_29x h2 B2 (by have := (zroom_i.mp r).1 (Or.inl (by omega)); omega) (Or.inl rfl) (fun m' o => W m' _ (if_pos (by omega)) ?_), fun k => zs_29x h2 B2 (by have := (zroom_i.mp r).1 (Or.inr (by omega)); omega) (Or.inr rfl) (fun m' o => W m' _ (by rw [if_neg (by omega), if_pos (by omega)]) ?_), fun k => ?_, fun k => zs_30x h2 B2 (by have := (zroom_i.mp r).2.2 (by omega); omega) (fun m' o => W m' _ (by rw [if_neg (by omega), if_neg (by omega), if_neg (by omega), if_pos (by omega)]) o), fun k => zs_31x h2 B2 (fun m' o => W m' _ (by rw [if_neg (by omega), if_neg (by omega), if_neg (by omega), if_neg (by omega), if_pos (by omega)]) o), fun k => zs_32x h2 B2 (fun m' o => W m' _ (by rw [if_neg (by omega), if_neg (by omega), if_neg (by omega), if_neg (by omega), if_neg (by omega), if_pos (by omega)]) o), fun k => zs_33x h2 B2 (fun m' o => W m' _ (by rw [if_neg (by omega), if_neg (by omega), if_neg (by omega), if_neg (by omega), if_neg (by omega), if_neg (by omega), if_pos (by omega)]) o)⟩
    · have e7 : (7 : Int32).toInt = 7 := rfl
      have sb := fb_subI (x := x) (y := 7) (by omega) (by omega)
      have n7 : (x - 7).toInt.toNat = x.toInt.toNat - 7 := by omega
      refine zs_34x h2 B2 (by omega) (fun m' o => W m' _ (by rw [if_neg (by omega), if_neg (by omega), if_neg (by omega), if_neg (by omega), if_neg (by omega), if_neg (by omega), if_neg (by omega)]) ?_)
      rw [n7] at o
      exact o
    · have fe : (fun v => zaddF (zv 36 37 42 m2) ((1 : Int32).toInt * v) 0) = (fun v => zaddF (zv 36 37 42 m2) v 0) := by
        funext v
        rw [e1, Int.one_mul]
      rw [fe] at o
      exact o
    · have fe : (fun v => zaddF (zv 36 37 42 m2) ((-1 : Int32).toInt * v) 0) = (fun v => zaddF (zv 36 37 42 m2) (-v) 0) := by
        funext v
        rw [em, Int.neg_one_mul]
      rw [fe] at o
      exact o
    · have p := (zroom_i.mp r).2.1 (by omega)
      have sb := fb_subI (x := m2.1 37 4) (y := 1) (by omega) (by omega)
      refine ⟨by omega, fun m11 q11 => W m11 _ (by rw [if_neg (by omega), if_neg (by omega), if_pos (by omega)]) ?_⟩
      have f11 : zfr (fun a => 36 ≤ a ∧ a ≤ 42) m2 m11 := by rw [q11]; exact zfr_u zfr_refl (by omega)
      have c35 : m11.1 35 = m2.1 35 := f11.1 35 (by omega)
      refine ⟨zfk_w f11, fun z => absurd rfl z, fun _ => ⟨by rw [c35], ?_, zTx_k h2.1 (zfk_w f11), by rw [c35]; exact h2.2.1, h2.2.2⟩⟩
      have ep : (m2.1 37 4 - 1).toInt.toNat = (zv 36 37 42 m2 5 5 - 1).toNat := by
        rw [show zv 36 37 42 m2 5 5 = (m2.1 37 4).toInt from rfl]
        omega
      rw [q11, zv_a1 zd36 (by omega), ep, e1]
  · have ei : zitem T (zv 36 37 42 m) s = (s, 0, zv 36 37 42 m) := by
      unfold zitem
      rw [if_neg n12, fx, if_pos (zno hb e)]
    rw [ei, q21]
    exact ⟨zfk_u f2 (by decide) (by decide), fun _ => by rw [zf_u3]; exact h.2.1, fun z => absurd (show s = -1 from z) (by omega)⟩
theorem zs_26x {c r : Nat} {F : zS} (hF : zv 2 3 8 m = F) (hB : zB F) (hc : ¬ (35 ≤ c ∧ c ≤ 43)) (hz : 0 ≤ (m.1 c 2).toInt ∧ (m.1 c 2).toInt ≤ 160) {x : zHe} (hl : x.2.1 = (m.1 c 2).toInt) (el : ∀ i : Nat, (i : Int) < x.2.1 → zel x i = (Int64.toInt32 (m.2 r i)).toInt) {Q : zf_Me → Prop} (hq : ∀ m', zfT m m' → (m'.1 35 6).toInt = (zway (ztext x) 170 F 0 0).1 → ((zway (ztext x) 170 F 0 0).1 = -1 → (m'.1 35 5).toInt = (zway (ztext x) 170 F 0 0).2.1 ∧ zv 36 37 42 m' = (zway (ztext x) 170 F 0 0).2.2) → Q m') : wp_26 c r 2 3 8 m Q := by
  have e0 : (0 : Int32).toInt = 0 := rfl
  have e1 : (1 : Int32).toInt = 1 := rfl
  have em : (-1 : Int32).toInt = -1 := rfl
  have tl : (ztext x).1 = (m.1 c 2).toInt := hl
  refine zs_63_43 zd36 (by decide) (by decide) (by decide) (fun m4 z4 f4 m5 q5 => ?_)
  have f5 : zfT m m5 := by
    rw [q5]
    exact zfr_u (zfr_mono f4 (fun a ha => by omega)) (by omega)
  have s5 : (m5.1 35 2).toInt = (m.1 c 2).toInt := by
    rw [q5, zf_u3, f4.1 c (by omega)]
  have z5 : zv 36 37 42 m5 = F := by
    rw [q5, zv36_35, z4, hF]
  have lp77 : ∀ (k j : Nat) (v4 : Int32) (mj : zf_Me) (g : zS) (p : Int), 0 ≤ v4.toInt → v4.toInt ≤ p → 160 - p < k → 160 - p < j → zPs (ztext x) p mj → zB g → zv 36 37 42 mj = g → zfT m mj → (mj.1 35 5).toInt = v4.toInt → (mj.1 35 6).toInt = -1 → zway (ztext x) j g p v4.toInt = zway (ztext x) 170 F 0 0 → wq_26_77 c r 2 3 8 Q (k + 1) 1 v4 mj := by
    intro k
    induction k with
    | zero =>
      intro j v4 mj g p k0 k1 k2 k2' hp
      have := hp.2.2.2
      omega
    | succ k ih =>
      intro j v4 mj g p k0 k1 k2 k2' hp hg zg fj i5 i6 hA
      have pb := hp.2.2.2
      refine ⟨fun z => absurd z (by decide), fun _ => ⟨fun z => by omega, fun _ => zs_27x hp (by rw [zg]; exact hg) (fun m14 o m15 q15 => ?_)⟩⟩
      rw [zg] at o
      obtain ⟨j, rfl⟩ : ∃ i, j = i + 1 := ⟨j - 1, by omega⟩
      replace hA : (if ¬ (zitem (ztext x) g p).1 = -1 then ((zitem (ztext x) g p).1, v4.toInt + 1, g) else if ¬ (zitem (ztext x) g p).2.1 < (ztext x).1 then (-1, v4.toInt + 1, (zitem (ztext x) g p).2.2) else if ¬ zis (ztext x) (zitem (ztext x) g p).2.1 59 then ((zitem (ztext x) g p).2.1, v4.toInt + 1, g) else zway (ztext x) j (zitem (ztext x) g p).2.2 ((zitem (ztext x) g p).2.1 + 1) (v4.toInt + 1)) = zway (ztext x) 170 F 0 0 := hA
      have ig := zitem_g (T := ztext x) (f := g) (s := p) hg hp.2.2.1
      have s4 := fb_addI (x := v4) (y := 1) (by omega) (by omega)
      have i14 : m14.1 35 5 = mj.1 35 5 := o.1.2.2
      have s5 := fb_addI (x := m14.1 35 5) (y := 1) (by rw [i14]; omega) (by rw [i14]; omega)
      have f15 : zfT m m15 := by rw [q15]; exact zfr_u (zfr_trans fj (zfr_mono o.1.1 (fun a ha => by omega))) (by omega)
      have c5 : (m15.1 35 5).toInt = v4.toInt + 1 := by rw [q15, zf_u3, s5, i14]; omega
      have c6 : m15.1 35 6 = m14.1 35 6 := by rw [q15, zf_u4 (by decide)]
      have c2 : m15.1 35 2 = m14.1 35 2 := by rw [q15, zf_u4 (by decide)]
      have c3 : m15.1 35 3 = m14.1 35 3 := by rw [q15, zf_u4 (by decide)]
      have z15 : zv 36 37 42 m15 = zv 36 37 42 m14 := by rw [q15, zv36_35]
      have stop : ∀ mk : zf_Me, zfT m mk → (mk.1 35 6).toInt = (zway (ztext x) 170 F 0 0).1 → ((zway (ztext x) 170 F 0 0).1 = -1 → (mk.1 35 5).toInt = (zway (ztext x) 170 F 0 0).2.1 ∧ zv 36 37 42 mk = (zway (ztext x) 170 F 0 0).2.2) → wq_26_77 c r 2 3 8 Q (k + 1) 0 (v4 + 1) mk := fun mk h1 h2 h3 => ⟨fun _ => hq mk h1 h2 h3, fun z => absurd e0 z⟩
      by_cases er : (zitem (ztext x) g p).1 = -1
      · have o2 := o.2.2 er
        have o3 := ig.2 er
        have k6 : (m15.1 35 6).toInt = -1 := by rw [c6, o2.1]; exact i6
        rw [if_neg (fun z => z er)] at hA
        refine ⟨fun z => absurd k6 z, fun _ => ?_⟩
        have px : zPs (ztext x) (zitem (ztext x) g p).2.1 m15 := by
          have q := o2.2.2
          have f' : zfk m14 m14 := zfk_refl
          refine ⟨⟨by rw [c2]; exact q.1.1, q.1.2.1, fun i hi => ?_⟩, by rw [c3]; exact q.2.1, q.2.2⟩
          rw [q15, zf_u1 (by decide)]
          exact q.1.2.2 i hi
        have sz := px.1.1
        have pl := px.2.1
        refine ⟨fun ge => stop m15 f15 ?_ ?_, fun lt => ?_⟩
        · rw [if_pos (by omega)] at hA
          rw [← hA]
          exact k6
        · rw [if_pos (by omega)] at hA
          rw [← hA]
          exact fun _ => ⟨c5, by rw [z15]; exact o2.2.1⟩
        · rw [if_neg (by omega)] at hA
          refine zs_39x (c := 59) px (fun hz m18 f18 z18 h18 k18 => ⟨fun z => (nomatch z), fun _ => ?_⟩) (fun hz m18 f18 z18 k18 h18 => ⟨fun _ => stop m18 (zfr_trans f15 (zfr_mono f18.1 (fun a ha => by omega))) ?_ ?_, fun z => (nomatch z)⟩)
          · rw [if_neg (fun z => z hz)] at hA
            refine ih j (v4 + 1) m18 _ _ (by omega) (by omega) (by omega) (by omega) h18 o3.2.2 (by rw [z18, z15]; exact o2.2.1) (zfr_trans f15 (zfr_mono f18.1 (fun a ha => by omega))) (by rw [f18.2.2, c5]; omega) (by rw [k18]; exact k6) ?_
            rw [show (v4 + 1).toInt = v4.toInt + 1 by omega]
            exact hA
          · rw [if_pos (show ¬ zis (ztext x) (zitem (ztext x) g p).2.1 59 from hz)] at hA
            rw [← hA]
            exact k18
          · rw [if_pos (show ¬ zis (ztext x) (zitem (ztext x) g p).2.1 59 from hz)] at hA
            rw [← hA]
            exact fun z => absurd (show (zitem (ztext x) g p).2.1 = -1 from z) (by have := hp.2.2.1; omega)
      · have o2 := o.2.1 er
        rw [if_pos er] at hA
        have k6 : (m15.1 35 6).toInt = (zitem (ztext x) g p).1 := by rw [c6]; exact o2
        refine ⟨fun _ => stop m15 f15 ?_ ?_, fun z => absurd (k6.symm.trans (z.trans em)) er⟩
        · rw [← hA]
          exact k6
        · rw [← hA]
          exact fun z => absurd z er
  have lp : ∀ (k : Nat) (v : Int32) (mj : zf_Me), 0 ≤ v.toInt → v.toInt ≤ (m.1 c 2).toInt → (m.1 c 2).toInt - v.toInt < k → (mj.1 35 2).toInt = (m.1 c 2).toInt → zv 36 37 42 mj = F → zfT m mj → (∀ i : Nat, (i : Int) < v.toInt → (mj.1 43 i).toInt = zel x i) → wq_26_32 c r 2 3 8 Q k v mj := by
    intro k
    induction k with
    | zero => intro v mj k0 k1 k2; omega
    | succ k ih =>
      intro v mj k0 k1 k2 sj zj fj lj
      refine ⟨fun g m7 q7 m9 q9 m11 q11 => ?_, fun g => ⟨⟨by omega, by omega⟩, ⟨by omega, by omega⟩, fun m21 q21 => ?_⟩⟩
      · have z11 : zv 36 37 42 m11 = F := by rw [q11, zv36_35, q9, zv36_35, q7, zv36_35, zj]
        have f11 : zfT m m11 := by
          rw [q11, q9, q7]
          exact zfr_u (zfr_u (zfr_u fj (by omega)) (by omega)) (by omega)
        have h11 : zPs (ztext x) 0 m11 := by
          refine ⟨⟨?_, by omega, fun i hi => ?_⟩, ?_, Int.le_refl _, by omega⟩
          · rw [q11, zf_u4 (by decide), q9, zf_u4 (by decide), q7, zf_u4 (by decide), sj, tl]
          · rw [q11, zf_u1 (by decide), q9, zf_u1 (by decide), q7, zf_u1 (by decide)]
            exact lj i (by omega)
          · rw [q11, zf_u4 (by decide), q9, zf_u4 (by decide), q7, zf_u3]
            rfl
        refine ⟨165, lp77 164 170 0 m11 F 0 (by decide) (by decide) (by decide) (by decide) h11 hB z11 f11 ?_ ?_ rfl⟩
        · rw [q11, zf_u4 (by decide), q9, zf_u3]
        · rw [q11, zf_u3]
          rfl
      · have s := fb_addI (x := v) (y := 1) (by omega) (by omega)
        refine ih _ m21 (by omega) (by omega) (by omega) (by rw [q21, zf_u1 (by decide), sj]) ?_ (by rw [q21]; exact zfr_u fj (by omega)) (fun i hi => ?_)
        · rw [q21, show zv 36 37 42 (zf_u mj 43 v.toInt.toNat (Int64.toInt32 (mj.2 r v.toInt.toNat))) = zv 36 37 42 mj from zv_fr (zf_u1 (by decide)) (fun a _ _ => zf_u1 (by omega)) (zf_u1 (by decide))]
          exact zj
        · rw [q21]
          by_cases e : i = v.toInt.toNat
          · rw [e, zf_u3, fj.2]
            exact (el _ (by omega)).symm
          · rw [zf_u4 e]
            exact lj i (by omega)
  exact ⟨162, lp 162 0 m5 (by decide) (by exact hz.1) (by show (m.1 c 2).toInt - 0 < _; omega) s5 z5 f5 (fun i hi => absurd (show (i : Int) < 0 from hi) (by omega))⟩
theorem zX_82 (hJ : JX m) {s : Int32} {Q : Int32 → zf_Me → Prop} (h0 : ¬ zK (zhC m) s.toInt = 0 → ∀ v m', zq m m' → v.toInt = -(zK (zhC m) s.toInt) → Q v m') (h1 : zK (zhC m) s.toInt = 0 → ∀ v m', zfr (fun a => a = 0 ∨ 2 ≤ a ∧ a ≤ 8 ∨ 16 ≤ a ∧ a ≤ 43 ∨ a = 46) m m' → m'.1 0 9 = m.1 0 9 → v.toInt = (zN82 (zhC m) (zv 2 3 8 m) s.toInt).1 → zv 2 3 8 m' = (zN82 (zhC m) (zv 2 3 8 m) s.toInt).2.1 → (m'.1 0 10).toInt = (zN82 (zhC m) (zv 2 3 8 m) s.toInt).2.2 → Q v m') : wp_82 s m Q := by
  have em : (-1 : Int32).toInt = -1 := rfl
  refine zs_111x (fun x h => ⟨fun e => ?_, fun ne => zs_109 (by have := zK_b (h := zhC m) (s := s.toInt); omega) (fun m' f => h0 (by rw [← h]; exact ne) _ m' (zfr_mono f (fun a ha => by omega)) ?_)⟩)
  · have hk := h.symm.trans e
    obtain ⟨g, rr⟩ := zK_0.mp hk
    have c := zhC_c (m := m) (s := s.toInt.toNat) (by omega)
    have l := zhC_l (m := m) (s := s.toInt.toNat) (by omega) (by rw [← c]; exact rr)
    have u : zhC m s.toInt.toNat = ((m.1 (47 + 2 * s.toInt.toNat) 1).toInt, (m.1 (47 + 2 * s.toInt.toNat) 2).toInt, fun (k : Nat) => if (k : Int) < (m.1 (47 + 2 * s.toInt.toNat) 2).toInt then m.2 (48 + 2 * s.toInt.toNat) k else 0) := (zhC_at (m := m) (s := s.toInt.toNat) (by omega)).trans (if_pos (by rw [← c]; exact rr))
    have H1 := h1 hk
    have N : zN82 (zhC m) (zv 2 3 8 m) s.toInt = if (zway (ztext (zhC m s.toInt.toNat)) 170 (zv 2 3 8 m) 0 0).1 = -1 then ((zway (ztext (zhC m s.toInt.toNat)) 170 (zv 2 3 8 m) 0 0).2.1, (zway (ztext (zhC m s.toInt.toNat)) 170 (zv 2 3 8 m) 0 0).2.2, -1) else (-6, zv 2 3 8 m, (zway (ztext (zhC m s.toInt.toNat)) 170 (zv 2 3 8 m) 0 0).1) := if_neg (fun z => z hk)
    rw [N] at H1
    refine ⟨g, zs_26x rfl hJ.1 (by omega) (hJ.2.2 _ (by omega)) (x := zhC m s.toInt.toNat) l (fun i hi => ?_) (fun m6 f6 a6 b6 m7 q7 => ?_)⟩
    · unfold zel
      rw [u]
      show (Int64.toInt32 (if (i : Int) < _ then _ else _)).toInt = _
      rw [l] at hi
      rw [if_pos hi]
    · have f7 : zfr (fun a => a = 0 ∨ (35 ≤ a ∧ a ≤ 43)) m m7 := by
        rw [q7]
        exact zfr_u (zfr_mono f6 (fun a ha => Or.inr ha)) (Or.inl rfl)
      have n7 : m7.1 0 9 = m.1 0 9 := by rw [q7, zf_u4 (by decide), f6.1 0 (by omega)]
      have t7 : (m7.1 0 10).toInt = (zway (ztext (zhC m s.toInt.toNat)) 170 (zv 2 3 8 m) 0 0).1 := by rw [q7, zf_u3]; exact a6
      have z7 : zv 2 3 8 m7 = zv 2 3 8 m := zv_of f7 (w := 2) (y := 3) (r := 8) (by omega) (fun a _ _ => by omega) (by omega)
      refine ⟨fun ok => ?_, fun no => ?_⟩
      · have k1 : (zway (ztext (zhC m s.toInt.toNat)) 170 (zv 2 3 8 m) 0 0).1 = -1 := t7.symm.trans ok
        have b := b6 k1
        rw [if_pos k1] at H1
        refine zs_63_43 zd2 (by decide) (by decide) (by decide) (fun m12 z12 f12 => H1 _ m12 (zfr_trans (zfr_mono f7 (fun a ha => by omega)) (zfr_mono f12 (fun a ha => by omega))) (by rw [f12.1 0 (by omega)]; exact n7) ?_ ?_ ?_)
        · show (m12.1 35 5).toInt = _
          rw [f12.1 35 (by omega), q7, zf_u1 (by decide)]
          exact b.1
        · rw [z12, q7, show zv 36 37 42 (zf_u m6 0 10 (m6.1 35 6)) = zv 36 37 42 m6 from zv_fr (zf_u1 (by decide)) (fun a _ _ => zf_u1 (by omega)) (zf_u1 (by decide))]
          exact b.2
        · rw [f12.1 0 (by omega)]
          exact ok
      · have k1 : ¬ (zway (ztext (zhC m s.toInt.toNat)) 170 (zv 2 3 8 m) 0 0).1 = -1 := fun z => no (t7.trans z)
        rw [if_neg k1] at H1
        exact zs_109 (by decide) (fun m' f => H1 _ m' (zfr_trans (zfr_mono f7 (fun a ha => by omega)) (zfr_mono f (fun a ha => by omega))) (by rw [f.1 0 (by omega)]; exact n7) rfl (by rw [zv_of f (w := 2) (y := 3) (r := 8) (by omega) (fun a _ _ => by omega) (by omega)]; exact z7) (by rw [f.1 0 (by omega)]; exact t7))
  · rw [← h]
    exact fb_negI (by have := zK_b (h := zhC m) (s := s.toInt); omega)
end
end
