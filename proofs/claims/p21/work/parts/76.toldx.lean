/-! part 76: walks told on a shelf, done for true, on both sides -/
def zel (x : zHe) (i : Nat) : Int := (Int64.toInt32 (x.2.2 i)).toInt
def ztry (x : zHe) (f : zS) : Nat → Nat → Int × zS
  | 0, _ => (-1, f)
  | n + 1, i => if zmay f (zel x i) then ztry x (zact f (zel x i)) n (i + 1) else ((i : Int), f)
def zN113 (h : zH) (s n : Int) : Int := if ¬ (0 ≤ s ∧ s < 8) then 1 else if (h s.toNat).1 < 100 then (if (h s.toNat).1 = -1 then 3 else 2) else if n < 0 then 4 else if (h s.toNat).2.1 < n then 5 else if 60 < n then 6 else 0
def zN96 (h : zH) (f : zS) (s n : Int) : Int × zS := if ¬ zN113 h s n = 0 then (-(zN113 h s n), f) else if (ztry (h s.toNat) f n.toNat 0).1 = -1 then ((ztry (h s.toNat) f n.toNat 0).2 5 10, (ztry (h s.toNat) f n.toNat 0).2) else (-6, f)
theorem zN113_0 {h : zH} {s n : Int} (e : zN113 h s n = 0) : (0 ≤ s ∧ s < 8) ∧ 100 ≤ (h s.toNat).1 ∧ 0 ≤ n ∧ n ≤ (h s.toNat).2.1 ∧ n ≤ 60 := by
  unfold zN113 at e
  split at e
  · omega
  · split at e
    · split at e <;> omega
    · split at e
      · omega
      · split at e
        · omega
        · split at e <;> omega
theorem zN113_b {h : zH} {s n : Int} : 0 ≤ zN113 h s n ∧ zN113 h s n ≤ 6 := by
  unfold zN113
  split
  · omega
  · split
    · split <;> omega
    · split
      · omega
      · split
        · omega
        · split <;> omega
theorem zel_u {c l : Int} {e : Nat → Int64} {i : Nat} (hc : 100 ≤ c) (hi : (i : Int) < l) : zel (znorm c l e) i = (Int64.toInt32 (e i)).toInt := by
  unfold zel znorm
  rw [if_pos hc]
  show (Int64.toInt32 (if (i : Int) < l then e i else 0)).toInt = _
  rw [if_pos hi]
section
variable {m : zf_Me}
theorem zhC_c {s : Nat} (hs : s < 8) : (zhC m s).1 = (m.1 (47 + 2 * s) 1).toInt := by rw [zhC_at hs, znorm_1]
theorem zhC_l {s : Nat} (hs : s < 8) (hc : 100 ≤ (m.1 (47 + 2 * s) 1).toInt) : (zhC m s).2.1 = (m.1 (47 + 2 * s) 2).toInt := by
  rw [zhC_at hs]
  unfold znorm
  rw [if_pos hc]
theorem zs_113x {s n : Int32} {Q : Int32 → zf_Me → Prop} (hq : ∀ x : Int32, x.toInt = zN113 (zhC m) s.toInt n.toInt → Q x m) : wp_113 s n m Q := by
  have c1 := fun (g : 0 ≤ s.toInt ∧ s.toInt < 8) => zhC_c (m := m) (s := s.toInt.toNat) (by omega)
  have c2 := fun (g : 0 ≤ s.toInt ∧ s.toInt < 8) (hc : 100 ≤ (m.1 (47 + 2 * s.toInt.toNat) 1).toInt) => zhC_l (m := m) (s := s.toInt.toNat) (by omega) hc
  refine zs_111 (fun g hc => ⟨fun _ => ⟨fun g1 => ⟨g, fun g2 => ⟨fun g3 => hq 0 ?_, fun g3 => hq 6 ?_⟩, fun g2 => hq 5 ?_⟩, fun g1 => hq 4 ?_⟩, fun z => absurd rfl z⟩) (fun g => ⟨fun z => absurd z (by decide), fun _ => hq 1 (if_pos g).symm⟩) (fun g hc hn => ⟨fun z => absurd z (by decide), fun _ => hq 2 ?_⟩) (fun g hc => ⟨fun z => absurd z (by decide), fun _ => hq 3 ?_⟩)
  · unfold zN113
    rw [if_neg (by omega), if_neg (by rw [c1 g]; omega), if_neg (by omega), if_neg (by rw [c2 g hc]; omega), if_neg (by omega)]
    rfl
  · unfold zN113
    rw [if_neg (by omega), if_neg (by rw [c1 g]; omega), if_neg (by omega), if_neg (by rw [c2 g hc]; omega), if_pos (by omega)]
    rfl
  · unfold zN113
    rw [if_neg (by omega), if_neg (by rw [c1 g]; omega), if_neg (by omega), if_pos (by rw [c2 g hc]; omega)]
    rfl
  · unfold zN113
    rw [if_neg (by omega), if_neg (by rw [c1 g]; omega), if_pos (by omega)]
    rfl
  · unfold zN113
    rw [if_neg (by omega), if_pos (by rw [c1 g]; omega), if_neg (by rw [c1 g]; exact hn)]
    rfl
  · unfold zN113
    rw [if_neg (by omega), if_pos (by rw [c1 g]; omega), if_pos (by rw [c1 g]; exact hc)]
    rfl
theorem zs_121x (hB : zB (zv 2 3 8 m)) {s n : Int32} (h0 : zN113 (zhC m) s.toInt n.toInt = 0) {Q : Int32 → zf_Me → Prop} (hq : ∀ (x : Int32) (m' : zf_Me), x.toInt = (ztry (zhC m s.toInt.toNat) (zv 2 3 8 m) n.toInt.toNat 0).1 → zv 16 3 17 m' = (ztry (zhC m s.toInt.toNat) (zv 2 3 8 m) n.toInt.toNat 0).2 → zB (zv 16 3 17 m') → zfr (fun a => a = 16 ∨ a = 17) m m' → Q x m') : wp_121 (47 + 2 * s.toInt.toNat) (48 + 2 * s.toInt.toNat) n m Q := by
  have e1 : (1 : Int32).toInt = 1 := rfl
  have h := zN113_0 h0
  have c1 := zhC_c (m := m) (s := s.toInt.toNat) (by omega)
  have hc : 100 ≤ (m.1 (47 + 2 * s.toInt.toNat) 1).toInt := by rw [← c1]; exact h.2.1
  have c2 := zhC_l (m := m) (s := s.toInt.toNat) (by omega) hc
  have el : ∀ i : Nat, (i : Int) < n.toInt → zel (zhC m s.toInt.toNat) i = (Int64.toInt32 (m.2 (48 + 2 * s.toInt.toNat) i)).toInt := fun i hi => by
    rw [zhC_at (by omega)]
    exact zel_u hc (by omega)
  refine zs_43s zd16 (by decide) (fun m2 z2 f2 => ?_)
  have lp : ∀ (k : Nat) (v : Int32) (mj : zf_Me), 0 ≤ v.toInt → v.toInt ≤ n.toInt → n.toInt - v.toInt < k → zB (zv 16 3 17 mj) → zfr (fun a => a = 16 ∨ a = 17) m mj → ztry (zhC m s.toInt.toNat) (zv 16 3 17 mj) (n.toInt - v.toInt).toNat v.toInt.toNat = ztry (zhC m s.toInt.toNat) (zv 2 3 8 m) n.toInt.toNat 0 → wq_121_13 (47 + 2 * s.toInt.toNat) (48 + 2 * s.toInt.toNat) n Q k v mj := by
    intro k
    induction k with
    | zero => intro v mj k0 k1 k2; omega
    | succ k ih =>
      intro v mj k0 k1 k2 hb hf ht
      refine ⟨fun g => hq (-1) mj ?_ ?_ hb hf, fun g => ⟨⟨by omega, by omega⟩, zs_52 hb (fun b hb1 => ?_)⟩⟩
      · rw [show (n.toInt - v.toInt).toNat = 0 by omega] at ht
        rw [← ht]
        rfl
      · rw [show (n.toInt - v.toInt).toNat = 0 by omega] at ht
        rw [← ht]
        rfl
      · have sv := fb_addI (x := v) (y := 1) (by omega) (by omega)
        have n7 : 0 ≤ (v + 1).toInt ∧ (v + 1).toInt ≤ n.toInt ∧ n.toInt - (v + 1).toInt < k ∧ (n.toInt - v.toInt).toNat = (n.toInt - (v + 1).toInt).toNat + 1 ∧ (v + 1).toInt.toNat = v.toInt.toNat + 1 ∧ ((v.toInt.toNat : Nat) : Int) = v.toInt := by omega
        have ev := el v.toInt.toNat (by omega)
        rw [n7.2.2.2.1] at ht
        have st : ztry (zhC m s.toInt.toNat) (zv 16 3 17 mj) ((n.toInt - (v + 1).toInt).toNat + 1) v.toInt.toNat = if zmay (zv 16 3 17 mj) (zel (zhC m s.toInt.toNat) v.toInt.toNat) then ztry (zhC m s.toInt.toNat) (zact (zv 16 3 17 mj) (zel (zhC m s.toInt.toNat) v.toInt.toNat)) (n.toInt - (v + 1).toInt).toNat (v.toInt.toNat + 1) else (((v.toInt.toNat : Nat) : Int), zv 16 3 17 mj) := rfl
        rw [st, ev] at ht
        have el2 : mj.2 = m.2 := hf.2
        rw [el2] at hb1 ⊢
        refine ⟨fun e => zs_56 zd16 hb (hb1.mp e) (fun m' z' f' => ih _ m' n7.1 n7.2.1 n7.2.2.1 (by rw [z']; exact zB_act hb (hb1.mp e)) (zfr_trans hf (zfr_mono f' (fun a ha => by omega))) ?_), fun e => hq v mj ?_ ?_ hb hf⟩
        · rw [if_pos (hb1.mp e)] at ht
          rw [z', n7.2.2.2.2.1]
          exact ht
        · rw [if_neg (zno hb1 e)] at ht
          rw [← ht]
          exact n7.2.2.2.2.2.symm
        · rw [if_neg (zno hb1 e)] at ht
          rw [← ht]
  exact ⟨162, lp 162 0 m2 (by decide) (by show (0 : Int) ≤ _; omega) (by show n.toInt - 0 < _; omega) (by rw [z2]; exact hB) (zfr_mono f2 (fun a ha => by omega)) (by rw [z2, show (n.toInt - (0 : Int32).toInt) = n.toInt by show n.toInt - 0 = _; omega]; rfl)⟩
theorem zX_96 (hJ : JX m) {s n : Int32} {Q : Int32 → zf_Me → Prop} (K : ∀ v m', zw m m' → v.toInt = (zN96 (zhC m) (zv 2 3 8 m) s.toInt n.toInt).1 → zv 2 3 8 m' = (zN96 (zhC m) (zv 2 3 8 m) s.toInt n.toInt).2 → Q v m') : wp_96 s n m Q := by
  refine zs_113x (fun x hx => ?_)
  have xb := zN113_b (h := zhC m) (s := s.toInt) (n := n.toInt)
  by_cases e : x.toInt = 0
  · have h0 : zN113 (zhC m) s.toInt n.toInt = 0 := by rw [← hx]; exact e
    have h := zN113_0 h0
    refine ⟨fun z => absurd e z, fun _ => ⟨h.1, zs_121x hJ.1 h0 (fun y m' hy hz hb f => ⟨fun y1 => ⟨fun _ => zs_43s zd2 (by decide) (fun m4 z4 f4 => K _ m4 (zfr_trans (zfr_mono f (fun a ha => by omega)) (zfr_mono f4 (fun a ha => by omega))) ?_ ?_), fun z => absurd e z⟩, fun y1 => ⟨fun z => absurd z (by decide), fun _ => ?_⟩⟩)⟩⟩
    · unfold zN96
      rw [if_neg (fun z => z h0), if_pos (by rw [← hy]; exact y1), ← hz, ← z4]
      rfl
    · unfold zN96
      rw [if_neg (fun z => z h0), if_pos (by rw [← hy]; exact y1), ← hz, ← z4]
    · refine zs_109 (by decide) (fun m2 f2 => K _ m2 (zfr_trans (zfr_mono f (fun a ha => by omega)) (zfr_mono f2 (fun a ha => by omega))) ?_ ?_)
      · unfold zN96
        rw [if_neg (fun z => z h0), if_neg (by rw [← hy]; exact y1)]
        rfl
      · unfold zN96
        rw [if_neg (fun z => z h0), if_neg (by rw [← hy]; exact y1)]
        exact zv_of (zfr_trans (zfr_mono f (fun a ha => (by omega : (a = 16 ∨ a = 17 ∨ a = 46)))) (zfr_mono f2 (fun a ha => (by omega : (a = 16 ∨ a = 17 ∨ a = 46))))) (by omega) (fun a _ _ => by omega) (by omega)
  · refine ⟨fun _ => ⟨fun z => absurd z e, fun _ => zC_no (by omega) K ?_⟩, fun z => absurd z e⟩
    unfold zN96
    rw [if_pos (by rw [← hx]; exact e), hx]
end
