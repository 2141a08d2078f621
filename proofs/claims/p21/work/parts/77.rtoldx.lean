/-! part 77: walks told on a shelf, done for true: the reference -/
section
variable {m : zf_Me}
/-- a shelf of the reference by its kind -/
theorem zhR_k (hJ : JM m) (ho : zso m) {s : Nat} (hs : s < 8) : ((m.1 70 s).toInt = 1 → 100 ≤ (zhR m s).1 ∧ (zhR m s).2.1 = (m.1 72 s).toInt ∧ (zhR m s).1 = 100 + (m.1 71 s).toInt ∧ ∀ i : Nat, (i : Int) < (m.1 72 s).toInt → (zhR m s).2.2 i = m.2 74 (160 * s + i)) ∧ ((m.1 70 s).toInt = 2 → (zhR m s).1 = (m.1 73 s).toInt ∧ 0 ≤ (zhR m s).1 ∧ (zhR m s).1 ≤ 5) ∧ ((m.1 70 s).toInt = 0 → (zhR m s).1 = -1) := by
  have a := zhR_at (m := m) hs
  have b := hJ.2.1 s hs
  have c1 : (zhR m s).1 = zcode (m.1 70 s).toInt (m.1 71 s).toInt (m.1 73 s).toInt := by rw [a, znorm_1]
  refine ⟨fun k => ?_, fun k => ?_, fun k => ?_⟩
  · have o := ho s hs k
    have cz : zcode (m.1 70 s).toInt (m.1 71 s).toInt (m.1 73 s).toInt = 100 + (m.1 71 s).toInt := if_pos k
    rw [cz] at c1 a
    refine ⟨by rw [c1]; omega, ?_, c1, fun i hi => ?_⟩
    · rw [a]
      unfold znorm
      rw [if_pos (by omega)]
    · rw [a]
      unfold znorm
      rw [if_pos (by omega)]
      exact if_pos hi
  · have p := b.2.2 k
    have cz : zcode (m.1 70 s).toInt (m.1 71 s).toInt (m.1 73 s).toInt = (m.1 73 s).toInt := by
      unfold zcode
      rw [if_neg (by omega), if_pos k]
    rw [cz] at c1
    exact ⟨c1, by rw [c1]; exact p.1, by rw [c1]; exact p.2⟩
  · unfold zcode at c1
    rw [if_neg (by omega), if_neg (by omega)] at c1
    exact c1
theorem zs_190x (hJ : JM m) (ho : zso m) {s n : Int32} {Q : Int32 → zf_Me → Prop} (hq : ∀ x : Int32, x.toInt = -(zN113 (zhR m) s.toInt n.toInt) → Q x m) : wp_190 s n m Q := by
  have kk := fun (g : 0 ≤ s.toInt ∧ s.toInt < 8) => zhR_k hJ ho (s := s.toInt.toNat) (by omega)
  have bb := fun (g : 0 ≤ s.toInt ∧ s.toInt < 8) => hJ.2.1 s.toInt.toNat (by omega)
  unfold wp_190 wp_139 wp_137
  refine zs_127 (fun g => ⟨fun _ => ⟨g, fun k2 => ⟨g, fun k0 => ⟨fun _ => ⟨fun n0 => ⟨g, fun nl => ⟨fun z => absurd rfl z, fun _ => ⟨fun n6 => hq 0 ?_, fun n6 => hq (-6) ?_⟩⟩, fun nl => ⟨fun _ => hq (-5) ?_, fun z => absurd z (by decide)⟩⟩, fun n0 => ⟨fun _ => hq (-4) ?_, fun z => absurd z (by decide)⟩⟩, fun z => absurd rfl z⟩, fun k0 => ⟨fun z => absurd z (by decide), fun _ => ⟨fun _ => hq (-3) ?_, fun z => absurd z (by decide)⟩⟩⟩, fun k2 => ⟨fun z => absurd z (by decide), fun _ => ⟨fun _ => hq (-2) ?_, fun z => absurd z (by decide)⟩⟩⟩, fun z => (nomatch z)⟩) (fun g => ⟨fun z => (nomatch z), fun _ => ⟨fun z => absurd z (by decide), fun _ => ⟨fun _ => hq (-1) ?_, fun z => absurd z (by decide)⟩⟩⟩)
  · have k := (kk g).1 (by have := bb g; omega)
    unfold zN113
    rw [if_neg (by omega), if_neg (by omega), if_neg (by omega), if_neg (by rw [k.2.1]; omega), if_neg (by omega)]
    rfl
  · have k := (kk g).1 (by have := bb g; omega)
    unfold zN113
    rw [if_neg (by omega), if_neg (by omega), if_neg (by omega), if_neg (by rw [k.2.1]; omega), if_pos (by omega)]
    rfl
  · have k := (kk g).1 (by have := bb g; omega)
    unfold zN113
    rw [if_neg (by omega), if_neg (by omega), if_neg (by omega), if_pos (by rw [k.2.1]; omega)]
    rfl
  · have k := (kk g).1 (by have := bb g; omega)
    unfold zN113
    rw [if_neg (by omega), if_neg (by omega), if_pos (by omega)]
    rfl
  · have k := (kk g).2.2 k0
    unfold zN113
    rw [if_neg (by omega), if_pos (by rw [k]; decide), if_pos k]
    rfl
  · have k := (kk g).2.1 k2
    unfold zN113
    rw [if_neg (by omega), if_pos (by omega), if_neg (by omega)]
    rfl
  · unfold zN113
    rw [if_pos g]
    rfl
theorem zs_189x (hB : zB (zr m)) {s n : Int32} (hs : 0 ≤ s.toInt ∧ s.toInt < 8) (hn : 0 ≤ n.toInt ∧ n.toInt ≤ 60) {x : zHe} (el : ∀ i : Nat, (i : Int) < n.toInt → zel x i = (Int64.toInt32 (m.2 74 (160 * s.toInt.toNat + i))).toInt) {Q : Int32 → zf_Me → Prop} (hq : ∀ (v : Int32) (m' : zf_Me), v.toInt = (ztry x (zr m) n.toInt.toNat 0).1 → zr m' = (ztry x (zr m) n.toInt.toNat 0).2 → zB (zr m') → zgc m m' → Q v m') : wp_189 s n m Q := by
  have e1 : (1 : Int32).toInt = 1 := rfl
  have lp : ∀ (k : Nat) (v : Int32) (mj : zf_Me), 0 ≤ v.toInt → v.toInt ≤ n.toInt → n.toInt - v.toInt < k → zgc m mj → zB (zr mj) → ztry x (zr mj) (n.toInt - v.toInt).toNat v.toInt.toNat = ztry x (zr m) n.toInt.toNat 0 → wq_189_2 s n Q k v mj := by
    intro k
    induction k with
    | zero => intro v mj k0 k1 k2; omega
    | succ k ih =>
      intro v mj k0 k1 k2 hf hb ht
      refine ⟨fun g => hq (-1) mj ?_ ?_ hb hf, fun g => ?_⟩
      · rw [show (n.toInt - v.toInt).toNat = 0 by omega] at ht
        rw [← ht]
        rfl
      · rw [show (n.toInt - v.toInt).toNat = 0 by omega] at ht
        rw [← ht]
        rfl
      · have t := zix (s := s) (i := v) hs (by omega)
        have sv := fb_addI (x := v) (y := 1) (by omega) (by omega)
        have n7 : 0 ≤ (v + 1).toInt ∧ (v + 1).toInt ≤ n.toInt ∧ n.toInt - (v + 1).toInt < k ∧ (n.toInt - v.toInt).toNat = (n.toInt - (v + 1).toInt).toNat + 1 ∧ (v + 1).toInt.toNat = v.toInt.toNat + 1 ∧ ((v.toInt.toNat : Nat) : Int) = v.toInt ∧ (160 * s + v).toInt.toNat = 160 * s.toInt.toNat + v.toInt.toNat := by omega
        have ev := el v.toInt.toNat (by omega)
        rw [n7.2.2.2.1] at ht
        have st : ztry x (zr mj) ((n.toInt - (v + 1).toInt).toNat + 1) v.toInt.toNat = if zmay (zr mj) (zel x v.toInt.toNat) then ztry x (zact (zr mj) (zel x v.toInt.toNat)) (n.toInt - (v + 1).toInt).toNat (v.toInt.toNat + 1) else (((v.toInt.toNat : Nat) : Int), zr mj) := rfl
        rw [st, ev] at ht
        have el2 : mj.2 = m.2 := hf.2
        refine ⟨by omega, ?_⟩
        rw [el2, n7.2.2.2.2.2.2]
        have E : ¬ zmay (zr mj) (Int64.toInt32 (m.2 74 (160 * s.toInt.toNat + v.toInt.toNat))).toInt → Q v mj := fun ne => by
          rw [if_neg ne] at ht
          exact hq v mj (by rw [← ht]; exact n7.2.2.2.2.2.1.symm) (by rw [← ht]) hb hf
        refine ⟨fun g0 => E (fun z => ?_), fun g0 => ⟨fun g9 => E (fun z => ?_), fun g9 => zs_167 hb g9 (fun b hm => ⟨fun e => zs_169 hb ⟨g0, g9⟩ (hm.mp e) (fun m6 z6 f6 => ih _ m6 n7.1 n7.2.1 n7.2.2.1 (zgr_trans hf f6) (by rw [z6]; exact zB_act hb (hm.mp e)) ?_), fun e => E (zno hm e)⟩)⟩⟩
        · have := zmay_r hb z
          exact absurd this.1 (Int.not_le.mpr g0)
        · have := zmay_r hb z
          exact absurd this.2 (Int.not_le.mpr g9)
        · rw [if_pos (hm.mp e)] at ht
          rw [z6, n7.2.2.2.2.1]
          exact ht
  exact ⟨62, lp 62 0 m (by decide) (by show (0 : Int) ≤ _; omega) (by show n.toInt - 0 < _; omega) zgr_refl hB (by rw [show (n.toInt - (0 : Int32).toInt) = n.toInt by show n.toInt - 0 = _; omega]; rfl)⟩
theorem zY_193 (hJ : JM m) (ho : zso m) {s n : Int32} {Q : Int32 → zf_Me → Prop} (K : ∀ v m', zgQ m m' → v.toInt = (zN96 (zhR m) (zr m) s.toInt n.toInt).1 → zr m' = (zN96 (zhR m) (zr m) s.toInt n.toInt).2 → Q v m') : wp_193 s n m Q := by
  refine zs_190x hJ ho (fun x hx => ?_)
  have xb := zN113_b (h := zhR m) (s := s.toInt) (n := n.toInt)
  by_cases e : x.toInt = 0
  · have h0 : zN113 (zhR m) s.toInt n.toInt = 0 := by omega
    have h := zN113_0 h0
    have kk := zhR_k hJ ho (s := s.toInt.toNat) (by omega)
    have b := hJ.2.1 s.toInt.toNat (by omega)
    have k1 : (m.1 70 s.toInt.toNat).toInt = 1 := by
      refine Decidable.byContradiction fun ne => ?_
      by_cases k0 : (m.1 70 s.toInt.toNat).toInt = 0
      · have := kk.2.2 k0
        omega
      · have := kk.2.1 (by omega)
        omega
    have k := kk.1 k1
    refine ⟨fun _ => zs_161s (by decide) rfl (by decide) (fun m4 a4 f4 z4 => ?_), fun z => absurd e z⟩
    have a4' : zA 81 0 m4 = zr m := a4
    refine zs_189x (by rw [z4]; exact hJ.1) h.1 ⟨h.2.2.1, h.2.2.2.2⟩ (x := zhR m s.toInt.toNat) (fun i hi => ?_) (fun y m6 hy hz hb f6 => ?_)
    · unfold zel
      rw [k.2.2.2 i (by omega), f4.2]
    · rw [z4] at hy hz
      have F6 : zgQ m m6 := zgr_trans (zgr_mono f4 (fun a k z => by omega)) (zgc_q f6)
      refine ⟨fun y1 => zs_182 (fun m8 z8 f8 => zs_125 (by decide) (fun m9 f9 => K _ m9 (zgr_trans F6 (zgr_trans (zgc_q f8) (zg64_q f9))) ?_ ?_)), fun y1 => K _ m6 F6 ?_ ?_⟩
      · unfold zN96
        rw [if_neg (fun z => z h0), if_neg (by rw [← hy]; exact y1)]
        rfl
      · unfold zN96
        rw [if_neg (fun z => z h0), if_neg (by rw [← hy]; exact y1), zg64_r f9, z8, zA_of f6 (fun k => by omega)]
        exact a4'
      · unfold zN96
        rw [if_neg (fun z => z h0), if_pos (by rw [← hy]; exact y1), ← hz]
        rfl
      · unfold zN96
        rw [if_neg (fun z => z h0), if_pos (by rw [← hy]; exact y1), ← hz]
  · refine ⟨fun z => absurd z e, fun _ => zR_no (by omega) K ?_⟩
    unfold zN96
    rw [if_pos (by omega), hx]
end
