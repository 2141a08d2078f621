section
/-! part 77: walks told on a shelf, done for true: the reference -/
section
variable {m : zf_Me}
/-- a shelf of the reference by its kind -/
theorem zhR_k (hJ : JM m) (ho : zso m) {s : Nat} (hs : s < 8) : ((m.1 70 s).toInt = 1 → 100 ≤ (zhR m s).1 ∧ (zhR m s).2.1 = (m.1 72 s).toInt ∧ (zhR m s).1 = 100 + (m.1 71 s).toInt ∧ ∀ i : Nat, (i : Int) < (m.1 72 s).toInt → (zhR m s).2.2 i = m.2 74 (160 * s + i)) ∧ ((m.1 70 s).toInt = 2 → (zhR m s).1 = (m.1 73 s).toInt ∧ 0 ≤ (zhR m s).1 ∧ (zhR m s).1 ≤ 5) ∧ ((m.1 70 s).toInt = 0 → (zhR m s).1 = -1) := by
  have a := zhR_at (m := m) hs
  have b := hJ.2.1 s hs
  have c1 : (zhR m s).1 = zcode (m.1 70 s).toInt (m.1 71 s).toInt (m.1 73 s).toInt := by rw [a, znorm_1]
  refine ⟨fun k => ?_, fun k => ?_, fun k => ?_⟩
  · have o := ho s hs k
    have cz : zcode (m.1 70 s).toInt (m.1 71 s).toInt (m.1 73 s).toInt = 100 + (m.1 71 s).toInt := if_pos k
    rw [cz] at c1 a
    refine ⟨by rw [c1]; omega, ?_, c1, fun i hi => ?_⟩
    · rw [a]
      unfold znorm
      rw [if_pos (by omega)]
    · rw [a]
      unfold znorm
      rw [if_pos (by omega)]
      exact if_pos hi
  · have p := b.2.2 k
    have cz : zcode (m.1 70 s).toInt (m.1 71 s).toInt (m.1 73 s).toInt = (m.1 73 s).toInt := by
      unfold zcode
      rw [if_neg (by omega), if_pos k]
    rw [cz] at c1
    exact ⟨c1, by rw [c1]; exact p.1, by rw [c1]; exact p.2⟩
  · unfold zcode at c1
    rw [if_neg (by omega), if_neg (by omega)] at c1
    exact c1
theorem zs_190x (hJ : JM m) (ho : zso m) {s n : Int32} {Q : Int32 → zf_Me → Prop} (hq : ∀ x : Int32, x.toInt = -(zN113 (zhR m) s.toInt n.toInt) → Q x m) : wp_190 s n m Q := by
  have kk := fun (g : 0 ≤ s.toInt ∧ s.toInt < 8) => zhR_k hJ ho (s := s.toInt.toNat) (by omega)
  have bb := fun (g : 0 ≤ s.toInt ∧ s.toInt < 8) => hJ.2.1 s.toInt.toNat (by omega)
  unfold wp_190 wp_139 wp_137
  refine zs_127 (fun g => ⟨fun _ => ⟨g, fun k2 => ⟨g, fun k0 => ⟨fun _ => ⟨fun n0 => ⟨g, fun nl => ⟨fun z => absurd rfl z, fun _ => ⟨fun n6 => hq 0 ?_, fun n6 => hq (-6) ?_⟩⟩, fun nl => ⟨fun _ => hq (-5) ?_, fun z => absurd z (by decide)⟩⟩, fun n0 => ⟨fun _ => hq (-4) ?_, fun z => absurd z (by decide)⟩⟩, fun z => absurd rfl z⟩, fun k0 => ⟨fun z => absurd z (by decide), fun _ => ⟨fun _ => hq (-3) ?_, fun z => absurd z (by decide)⟩⟩⟩, fun k2 => ⟨fun z => absurd z (by decide), fun _ => ⟨fun _ => hq (-2) ?_, fun z => absurd z (by decide)⟩⟩⟩, fun z => (nomatch z)⟩) (fun g => ⟨fun z => (nomatch z), fun _ => ⟨fun z => absurd z (by decide), fun _ => ⟨fun _ => hq (-1) ?_, fun z => absurd z (by decide)⟩⟩⟩)
  · have k := (kk g).1 (by have := bb g; omega)
    unfold zN113
    rw [if_neg (by omega), if_neg (by omega), if_neg (by omega), if_neg (by rw [k.2.1]; omega), if_neg (by omega)]
    rfl
  · have k := (kk g).1 (by have := bb g; omega)
    unfold zN113
    rw [if_neg (by omega), if_neg (by omega), if_neg (by omega), if_neg (by rw [k.2.1]; omega), if_pos (by omega)]
    rfl
  · have k := (kk g).1 (by have := bb g; omega)
    unfold zN113
    rw [if_neg (by omega), if_neg (by omega), if_neg (by omega), if_pos (by rw [k.2.1]; omega)]
    rfl
  · have k := (kk g).1 (by have := bb g; omega)
    unfold zN113
    rw [if_neg (by omega), if_neg (by omega), if_pos (by omega)]
    rfl
  · have k := (kk g).2.2 k0
    unfold zN113
    rw [if_neg (by omega), if_pos (by rw [k]; decide), if_pos k]
    rfl
  · have k := (kk g).2.1 k2
    unfold zN113
    rw [if_neg (by omega), if_pos (by omega), if_neg (by omega)]
    rfl
  · unfold zN113
    rw [if_pos g]
    rfl
theorem zs_189x (hB : zB (zr m)) {s n : Int32} (hs : 0 ≤ s.toInt ∧ s.toInt < 8) (hn : 0 ≤ n.toInt ∧ n.toInt ≤ 60) {x : zHe} (el : ∀ i : Nat, (i : Int) < n.toInt → zel x i = (Int64.toInt32 (m.2 74 (160 * s.toInt.toNat + i))).toInt) {Q : Int32 → zf_Me → Prop} (hq : ∀ (v : Int32) (m' : zf_Me), v.toInt = (ztry x (zr m) n.toInt.toNat 0).1 → zr m' = (ztry x (zr m) n.toInt.toNat 0).2 → zB (zr m') → zgc m m' → Q v m') : wp_189 s n m Q := by
  have e1 : (1 : Int32).toInt = 1 := rfl
  have lp : ∀ (k : Nat) (v : Int32) (mj : zf_Me), 0 ≤ v.toInt → v.toInt ≤ n.toInt → n.toInt - v.toInt < k → zgc m mj → zB (zr mj) → ztry x (zr mj) (n.toInt - v.toInt).toNat v.toInt.toNat = ztry x (zr m) n.toInt.toNat 0 → wq_189_2 s n Q k v mj := by
    intro k
    induction k with
    | zero => intro v mj k0 k1 k2; omega
    | succ k ih =>
      intro v mj k0 k1 k2 hf hb ht
      refine ⟨fun g => hq (-1) mj ?_ ?_ hb hf, fun g => ?_⟩
      · rw [show (n.toInt - v.toInt).toNat = 0 by omega] at ht
        rw [← ht]
        rfl
      · rw [show (n.toInt - v.toInt).toNat = 0 by omega] at ht
        rw [← ht]
        rfl
      · have t := zix (s := s) (i := v) hs (by omega)
        have sv := fb_addI (x := v) (y := 1) (by omega) (by omega)
        have n7 : 0 ≤ (v + 1).toInt ∧ (v + 1).toInt ≤ n.toInt ∧ n.toInt - (v + 1).toInt < k ∧ (n.toInt - v.toInt).toNat = (n.toInt - (v + 1).toInt).toNat + 1 ∧ (v + 1).toInt.toNat = v.toInt.toNat + 1 ∧ ((v.toInt.toNat : Nat) : Int) = v.toInt ∧ (160 * s + v).toInt.toNat = 160 * s.toInt.toNat + v.toInt.toNat := by omega
        have ev := el v.toInt.toNat (by omega)
        rw [n7.2.2.2.1] at ht
        have st : ztry x (zr mj) ((n.toInt - (v + 1).toInt).toNat + 1) v.toInt.toNat = if zmay (zr mj) (zel x v.toInt.toNat) then ztry x (zact (zr mj) (zel x v.toInt.toNat)) (n.toInt - (v + 1).toInt).toNat (v.toInt.toNat + 1) else (((v.toInt.toNat : Nat) : Int), zr mj) := rfl
        rw [st, ev] at ht
        have el2 : mj.2 = m.2 := hf.2
        refine ⟨by omega, ?_⟩
        rw [el2, n7.2.2.2.2.2.2]
        have E : ¬ zmay (zr mj) (Int64.toInt32 (m.2 74 (160 * s.toInt.toNat + v.toInt.toNat))).toInt → Q v mj := fun ne => by
          rw [if_neg ne] at ht
          exact hq v mj (by rw [← ht]; exact n7.2.2.2.2.2.1.symm) (by rw [← ht]) hb hf
        refine ⟨fun g0 => E (fun z => ?_), fun g0 => ⟨fun g9 => E (fun z => ?_), fun g9 => zs_167 hb g9 (fun b hm => ⟨fun e => zs_169 hb ⟨g0, g9⟩ (hm.mp e) (fun m6 z6 f6 => ih _ m6 n7.1 n7.2.1 n7.2.2.1 (zgr_trans hf f6) (by rw [z6]; exact zB_act hb (hm.mp e)) ?_), fun e => E (zno hm e)⟩)⟩⟩
        · have := zmay_r hb z
          exact absurd this.1 (Int.not_le.mpr g0)
        · have := zmay_r hb z
          exact absurd this.2 (Int.not_le.mpr g9)
        · rw [if_pos (hm.mp e)] at ht
          rw [z6, n7.2.2.2.2.1]
          exact ht
  exact ⟨62, lp 62 0 m (by decide) (by show (0 : Int) ≤ _; omega) (by show n.toInt - 0 < _; omega) zgr_refl hB (by rw [show (n.toInt - (0 : Int32).toInt) = n.toInt by show n.toInt - 0 = _; omega]; rfl)⟩
theorem zY_193 (hJ : JM m) (ho : zso m) {s n : Int32} {Q : Int32 → zf_Me → Prop} (K : ∀ v m', zgQ m m' → v.toInt = (zN96 (zhR m) (zr m) s.toInt n.toInt).1 → zr m' = (zN96 (zhR m) (zr m) s.toInt n.toInt).2 → Q v m') : wp_193 s n m Q := by
  refine zs_190x hJ ho (fun x hx => ?_)
  have xb := zN113_b (h := zhR m) (s := s.toInt) (n := n.toInt)
  by_cases e : x.toInt = 0
  · have h0 : zN113 (zhR m) s.toInt n.toInt = 0 := by omega
    have h := zN113_0 h0
    have kk := zhR_k hJ ho (s := s.toInt.toNat) (by omega)
    have b := hJ.2.1 s.toInt.toNat (by omega)
    have k1 : (m.1 70 s.toInt.toNat).toInt = 1 := by
      refine Decidable.byContradiction fun ne => ?_
      by_cases k0 : (m.1 70 s.toInt.toNat).toInt = 0
      · have := kk.2.2 k0
        omega
      · have := kk.2.1 (by omega)
        omega
    have k := kk.1 k1
    refine ⟨fun _ => zs_161s (by decide) rfl (by decide) (fun m4 a4 f4 z4 => ?_), fun z => absurd e z⟩
    have a4' : zA 81 0 m4 = zr m := a4
    refine zs_189x (by rw [z4]; exact hJ.1) h.1 ⟨h.2.2.1, h.2.2.2.2⟩ (x := zhR m s.toInt.toNat) (fun i hi => ?_) (fun y m6 hy hz hb f6 => ?_)
    · unfold zel
      rw [k.2.2.2 i (by omega), f4.2]
    · rw [z4] at hy hz
      have F6 : zgQ m m6 := zgr_trans (zgr_mono f4 (fun a k z => by omega)) (zgc_q f6)
      refine ⟨fun y1 => zs_182 (fun m8 z8 f8 => zs_125 (by decide) (fun m9 f9 => K _ m9 (zgr_trans F6 (zgr_trans (zgc_q f8) (zg64_q f9))) ?_ ?_)), fun y1 => K _ m6 F6 ?_ ?_⟩
      · unfold zN96
        rw [if_neg (fun z => z h0), if_neg (by rw [← hy]; exact y1)]
        rfl
      · unfold zN96
        rw [if_neg (fun z => z h0), if_neg (by rw [← hy]; exact y1), zg64_r f9, z8, zA_of f6 (fun k => by omega)]
        exact a4'
      · unfold zN96
        rw [if_neg (fun z => z h0), if_pos (by rw [← hy]; exact y1), ← hz]
        rfl
      · unfold zN96
        rw [if_neg (fun z => z h0), if_pos (by rw [← hy]; exact y1), ← hz]
  · refine ⟨fun z => absurd z e, fun _ => zR_no (by omega) K ?_⟩
    unfold zN96
    rw [if_pos (by omega), hx]
end
end
section
/-! part 78: the image, taken and given back, on both sides -/
def zclr (h : zH) (pe : Int) : zH := fun j => if (h j).1 < 100 ∧ ¬ (0 ≤ (h j).1 ∧ (h j).1 < pe) then (-1, 0, fun _ => 0) else h j
def zclrN (h : zH) (pe : Int) (n : Nat) : zH := fun j => if j < n then zclr h pe j else h j
theorem zclrN_same {h : zH} {pe : Int} {n : Nat} (e : zclr h pe n = h n) : zclrN h pe (n + 1) = zclrN h pe n := by
  funext j
  unfold zclrN
  by_cases g : j < n
  · rw [if_pos g, if_pos (by omega)]
  · rw [if_neg g]
    by_cases k : j = n
    · rw [if_pos (by omega), k, e]
    · rw [if_neg (by omega)]
theorem zclrN_put {h : zH} {pe : Int} {n : Nat} {x : zHe} (e : zclr h pe n = x) : zput (zclrN h pe n) n x = zclrN h pe (n + 1) := by
  funext j
  unfold zput zclrN
  by_cases k : j = n
  · rw [if_pos k, if_pos (by omega), k, e]
  · rw [if_neg k]
    by_cases g : j < n
    · rw [if_pos g, if_pos (by omega)]
    · rw [if_neg g, if_neg (by omega)]
theorem zclrN_8 {h : zH} {pe : Int} (hp : 0 ≤ pe) (e : ∀ j, 8 ≤ j → h j = (-1, 0, fun _ => 0)) : zclrN h pe 8 = zclr h pe := by
  funext j
  unfold zclrN
  by_cases g : j < 8
  · rw [if_pos g]
  · rw [if_neg g]
    unfold zclr
    rw [e j (by omega)]
    exact (if_pos ⟨by decide, by show ¬ (0 ≤ (-1 : Int) ∧ _); omega⟩).symm
theorem zhC_8 {m : zf_Me} (j : Nat) (h : 8 ≤ j) : zhC m j = (-1, 0, fun _ => 0) := if_neg (by omega)
theorem zhR_8 {m : zf_Me} (j : Nat) (h : 8 ≤ j) : zhR m j = (-1, 0, fun _ => 0) := if_neg (by omega)
def zfX (m m' : zf_Me) : Prop := (∀ a, ¬ (2 ≤ a ∧ a ≤ 8 ∨ 16 ≤ a ∧ a ≤ 43 ∨ 46 ≤ a ∧ a ≤ 62) → m'.1 a = m.1 a) ∧ m'.2 = m.2
section
variable {m : zf_Me}
theorem zX_106 {Q : Int32 → zf_Me → Prop} (K : ∀ v m', zfr (fun a => a = 0 ∨ 9 ≤ a ∧ a ≤ 15) m m' → v.toInt = zv 2 3 8 m 5 6 → zv 9 10 15 m' = zv 2 3 8 m → m'.1 0 9 = 1 → m'.1 0 10 = m.1 0 10 → Q v m') : wp_106 m Q := by
  refine zs_63_43 zd9 (by decide) (by decide) (by decide) (fun m4 z4 f4 m5 q5 => ?_)
  have f5 : zfr (fun a => a = 0 ∨ 9 ≤ a ∧ a ≤ 15) m m5 := by
    rw [q5]
    exact zfr_u (zfr_mono f4 (fun a ha => by omega)) (Or.inl rfl)
  refine K _ m5 f5 ?_ ?_ ?_ ?_
  · rw [f5.1 3 (by omega)]
    rfl
  · rw [q5, show zv 9 10 15 (zf_u m4 0 9 1) = zv 9 10 15 m4 from zv_fr (zf_u1 (by decide)) (fun a _ _ => zf_u1 (by omega)) (zf_u1 (by decide)), z4]
  · rw [q5, zf_u3]
  · rw [q5, zf_u4 (by decide), f4.1 0 (by omega)]
theorem zX_107 (hJ : JX m) {Q : Int32 → zf_Me → Prop} (h0 : (m.1 0 9).toInt = 0 → ∀ v m', zq m m' → v.toInt = -6 → Q v m') (h1 : ¬ (m.1 0 9).toInt = 0 → ∀ v m', zfX m m' → zsz m' → v.toInt = zv 9 10 15 m 5 6 → zv 2 3 8 m' = zv 9 10 15 m → zhC m' = zclr (zhC m) (zv 9 10 15 m 5 6) → Q v m') : wp_107 m Q := by
  have e1 : (1 : Int32).toInt = 1 := rfl
  have e8 : (8 : Int32).toInt = 8 := rfl
  refine ⟨fun g => zs_63_43 zd2 (by decide) (by decide) (by decide) (fun m4 z4 f4 => ?_), fun g => zs_109 (by decide) (fun m' f => h0 g _ m' (zfr_mono f (fun a ha => by omega)) rfl)⟩
  have hc4 : zhC m4 = zhC m := zhC_id (fun a a1 a2 => ⟨f4.1 a (by omega), by rw [f4.2]⟩)
  have pb := hJ.2.1.1
  have lp : ∀ (n : Nat) (v3 : Int32) (mj : zf_Me), 0 ≤ v3.toInt → v3.toInt ≤ 8 → 8 - v3.toInt < n → zfX m mj → zsz mj → zv 2 3 8 mj = zv 9 10 15 m → zhC mj = zclrN (zhC m) (zv 9 10 15 m 5 6) v3.toInt.toNat → wq_107_52 Q n 8 v3 mj := by
    intro n
    induction n with
    | zero => intro v3 mj k0 k1 k2; omega
    | succ n ih =>
      intro v3 mj k0 k1 k2 hf hS hz hh
      have pe : (mj.1 3 5).toInt = zv 9 10 15 m 5 6 := by
        rw [← hz]
        rfl
      refine ⟨fun g3 => h1 g _ mj hf hS pe hz ?_, fun g3 => ⟨by omega, ?_⟩⟩
      · rw [hh, show v3.toInt.toNat = 8 by omega]
        exact zclrN_8 (by omega) zhC_8
      · have s := fb_addI (x := v3) (y := 1) (by omega) (by omega)
        have n3 : (v3 + 1).toInt.toNat = v3.toInt.toNat + 1 := by omega
        have l3 : v3.toInt.toNat < 8 := by omega
        have c : (zhC m v3.toInt.toNat).1 = (mj.1 (47 + 2 * v3.toInt.toNat) 1).toInt := by
          rw [← zhC_c l3, hh]
          unfold zclrN
          rw [if_neg (Nat.lt_irrefl _)]
        have same : zclr (zhC m) (zv 9 10 15 m 5 6) v3.toInt.toNat = zhC m v3.toInt.toNat → wq_107_52 Q n 8 (v3 + 1) mj := fun e => ih _ mj (by omega) (by omega) (by omega) hf hS hz (by rw [n3, zclrN_same e]; exact hh)
        have low : (mj.1 (47 + 2 * v3.toInt.toNat) 1).toInt < 100 → wp_65 3 (mj.1 (47 + 2 * v3.toInt.toNat) 1) mj (fun b9 m10 => ((b9 = true → wq_107_52 Q n 8 (v3 + 1) m10) ∧ (b9 = false → (∀ m11, m11 = zf_u m10 (47 + 2 * v3.toInt.toNat) 1 (-1) → wq_107_52 Q n 8 (v3 + 1) m11)))) := fun lo => by
          refine zs_65t (fun k => ⟨fun _ => same (if_neg (by rw [c, ← pe]; exact fun z => z.2 k)), fun z => (nomatch z)⟩) (fun k => ⟨fun z => (nomatch z), fun _ m11 q11 => ?_⟩)
          refine ih _ m11 (by omega) (by omega) (by omega) ⟨fun a ha => by rw [q11, zf_u1 (by omega)]; exact hf.1 a ha, by rw [q11]; exact hf.2⟩ (fun j hj => ?_) ?_ ?_
          · rw [q11]
            by_cases ej : j = v3.toInt.toNat
            · rw [ej, zf_u4 (by decide)]
              exact hS _ l3
            · rw [zf_u1 (by omega)]
              exact hS j hj
          · rw [q11, show zv 2 3 8 (zf_u mj (47 + 2 * v3.toInt.toNat) 1 (-1)) = zv 2 3 8 mj from zv_fr (zf_u1 (by omega)) (fun a _ _ => zf_u1 (by omega)) (zf_u1 (by omega))]
            exact hz
          · rw [n3, ← zclrN_put (x := (-1, 0, fun _ => 0)) (if_pos (by rw [c, ← pe]; exact ⟨lo, k⟩)), ← hh]
            rw [zhC_put (m := mj) (m' := m11) (s := v3.toInt.toNat) l3 (fun j hj hne => ⟨by rw [q11, zf_u1 (by omega)], by rw [q11]; rfl⟩)]
            congr 1
            have cc : (m11.1 (47 + 2 * v3.toInt.toNat) 1).toInt = -1 := by
              rw [q11, zf_u3]
              rfl
            unfold znorm
            rw [cc, if_neg (by decide)]
        refine ⟨fun lo => ⟨fun z => (nomatch z), fun _ => low lo⟩, fun hi => ⟨fun _ => same (if_neg (by rw [c]; omega)), fun z => (nomatch z)⟩⟩
  exact ⟨10, lp 10 0 m4 (by decide) (by decide) (by decide) ⟨fun a ha => f4.1 a (by omega), f4.2⟩ (fun j hj => by rw [f4.1 _ (by omega)]; exact hJ.2.2 j hj) z4 (by rw [hc4]; funext j; exact (if_neg (Nat.not_lt_zero _)).symm)⟩
theorem zY_208 {Q : Int32 → zf_Me → Prop} (K : ∀ v m', zgr' (fun a k => (a = 63 ∧ k = 52) ∨ a = 80) m m' → v.toInt = zr m 5 6 → zr m' = zr m → zA 80 0 m' = zr m → m'.1 63 52 = 1 → Q v m') : wp_208 m Q := by
  intro m1 q1
  have z1 : zr m1 = zr m := by rw [q1, zrk_44 (by decide)]
  refine zs_161s (by decide) rfl (by decide) (fun m4 a4 f4 z4 => ?_)
  have a4' : zA 80 0 m4 = zr m1 := a4
  have F : zgr' (fun a k => (a = 63 ∧ k = 52) ∨ a = 80) m m4 := by
    refine zgr_trans (?_ : zgr' _ m m1) (zgr_mono f4 (fun a k z => by omega))
    rw [q1]
    exact zgr_u zgr_refl (by omega)
  refine K _ m4 F ?_ (z4.trans z1) (a4'.trans z1) ?_
  · have e : zr m4 5 6 = zr m 5 6 := by rw [z4, z1]
    exact e
  · rw [f4.1 63 52 (by omega), q1, zf_u3]
end
end
section
/-! part 79: the image given back: the reference; copies of rows: the class -/
def zgX (m m' : zf_Me) : Prop := (∀ a k, ¬ (zcoQ a k ∨ a = 70) → m'.1 a k = m.1 a k) ∧ m'.2 = m.2
section
variable {m : zf_Me}
theorem zY_209 (hJ : JM m) (ho : zso m) {Q : Int32 → zf_Me → Prop} (h0 : (m.1 63 52).toInt = 0 → ∀ v m', zgQ m m' → zr m' = zr m → v.toInt = -6 → Q v m') (h1 : ¬ (m.1 63 52).toInt = 0 → ∀ v m', zgX m m' → zsR m' → zso m' → v.toInt = zA 80 0 m 5 6 → zr m' = zA 80 0 m → zhR m' = zclr (zhR m) (zA 80 0 m 5 6) → Q v m') : wp_209 m Q := by
  have e1 : (1 : Int32).toInt = 1 := rfl
  refine ⟨fun g => zs_161b (by decide) (by decide) (by decide) (fun m2 z2 f2 => ?_), fun g => zs_125 (by decide) (fun m' f => h0 g _ m' (zg64_q f) (zg64_r f) rfl)⟩
  have z2' : zr m2 = zA 80 0 m := z2
  have hc2 : zhR m2 = zhR m := zhR_q (zgc_q f2)
  have B2 : zB (zr m2) := by
    rw [z2']
    exact hJ.2.2.1.resolve_left g
  have pb := B2.1
  have lp : ∀ (n : Nat) (v : Int32) (mj : zf_Me), 0 ≤ v.toInt → v.toInt ≤ 8 → 8 - v.toInt < n → zgX m mj → zr mj = zA 80 0 m → (∀ j, v.toInt.toNat ≤ j → mj.1 70 j = m.1 70 j) → zhR mj = zclrN (zhR m) (zA 80 0 m 5 6) v.toInt.toNat → zsR mj → zso mj → wq_209_26 Q n v mj := by
    intro n
    induction n with
    | zero => intro v mj k0 k1 k2; omega
    | succ n ih =>
      intro v mj k0 k1 k2 hf hz h70 hh hs hO
      have pe : (mj.1 63 1).toInt = zA 80 0 m 5 6 := by
        rw [← hz]
        rfl
      refine ⟨fun g3 => h1 g _ mj hf hs hO pe hz ?_, fun g3 => ⟨by omega, ?_⟩⟩
      · rw [hh, show v.toInt.toNat = 8 by omega]
        exact zclrN_8 (by rw [← z2']; omega) zhR_8
      · have s := fb_addI (x := v) (y := 1) (by omega) (by omega)
        have n3 : (v + 1).toInt.toNat = v.toInt.toNat + 1 := by omega
        have l3 : v.toInt.toNat < 8 := by omega
        have kk := zhR_k hJ ho l3
        have b := hJ.2.1 v.toInt.toNat l3
        have c70 : mj.1 70 v.toInt.toNat = m.1 70 v.toInt.toNat := h70 _ (Nat.le_refl _)
        have c73 : mj.1 73 v.toInt.toNat = m.1 73 v.toInt.toNat := hf.1 73 _ (by omega)
        have same : zclr (zhR m) (zA 80 0 m 5 6) v.toInt.toNat = zhR m v.toInt.toNat → wq_209_26 Q n (v + 1) mj := fun e => ih _ mj (by omega) (by omega) (by omega) hf hz (fun j hj => h70 j (by omega)) (by rw [n3, zclrN_same e]; exact hh) hs hO
        refine ⟨fun k2 => same ?_, fun k2 => ⟨by omega, fun lt => same ?_, fun ge => ⟨by omega, fun m3 q3 => ?_⟩⟩⟩
        · rw [c70] at k2
          unfold zclr
          by_cases k1 : (m.1 70 v.toInt.toNat).toInt = 1
          · have := kk.1 k1
            rw [if_neg (by omega)]
          · have k := kk.2.2 (by omega)
            have a := zhR_at (m := m) l3
            have e : zhR m v.toInt.toNat = (-1, 0, fun _ => 0) := by
              have cz : zcode (m.1 70 v.toInt.toNat).toInt (m.1 71 v.toInt.toNat).toInt (m.1 73 v.toInt.toNat).toInt = -1 := by
                rw [← k, a, znorm_1]
              rw [a, cz]
              unfold znorm
              rw [if_neg (by decide)]
            rw [e]
            split <;> rfl
        · rw [c70] at k2
          rw [c73, pe] at lt
          have k := kk.2.1 k2
          exact if_neg (by rw [k.1]; exact fun z => z.2 ⟨by rw [← k.1]; exact k.2.1, lt⟩)
        · rw [c70] at k2
          rw [c73, pe] at ge
          have k := kk.2.1 k2
          have F3 : zgX m m3 := ⟨fun a kx ha => by rw [q3, zf_u1 (by omega)]; exact hf.1 a kx ha, by rw [q3]; exact hf.2⟩
          refine ih _ m3 (by omega) (by omega) (by omega) F3 ?_ (fun j hj => ?_) ?_ (fun j hj => ?_) (fun j hj => ?_)
          · rw [q3]
            exact (zr_fr (fun j hj => by rw [zf_u1 (by decide)]) (fun a _ _ => by rw [zf_u1 (by omega)])).trans hz
          · rw [q3, zf_u4 (by omega)]
            exact h70 j (by omega)
          · rw [n3, ← zclrN_put (x := (-1, 0, fun _ => 0)) (if_pos ⟨by omega, by rw [k.1]; omega⟩), ← hh]
            rw [zhR_put (m := mj) (m' := m3) (s := v.toInt.toNat) l3 (fun j hj hne => ⟨by rw [q3, zf_u4 hne], by rw [q3, zf_u1 (by decide)], by rw [q3, zf_u1 (by decide)], by rw [q3, zf_u1 (by decide)], fun i _ => by rw [q3]; rfl⟩) hs]
            congr 1
            have cc : (m3.1 70 v.toInt.toNat).toInt = 0 := by
              rw [q3, zf_u3]
              rfl
            have cz : ∀ o p : Int, zcode 0 o p = -1 := fun _ _ => rfl
            rw [cc, cz]
            unfold znorm
            rw [if_neg (by decide)]
          · have b3 := hs j hj
            rw [q3, zf_u1 (a := 72) (by decide), zf_u1 (a := 73) (by decide)]
            by_cases e : j = v.toInt.toNat
            · rw [e, zf_u3]
              rw [e] at b3
              exact ⟨by decide, b3.2.1, fun z => absurd z (by decide)⟩
            · rw [zf_u4 e]
              exact b3
          · rw [q3, zf_u1 (a := 71) (by decide)]
            by_cases e : j = v.toInt.toNat
            · rw [e, zf_u3]
              exact fun z => absurd z (by decide)
            · rw [zf_u4 e]
              exact hO j hj
  have s2 : zsR m2 := fun j hj => by
    rw [f2.1 70 j (by omega), f2.1 72 j (by omega), f2.1 73 j (by omega)]
    exact hJ.2.1 j hj
  have o2 : zso m2 := fun j hj => by
    rw [f2.1 70 j (by omega), f2.1 71 j (by omega)]
    exact ho j hj
  exact ⟨10, lp 10 0 m2 (by decide) (by decide) (by decide) ⟨fun a k ha => f2.1 a k (by omega), f2.2⟩ z2' (fun j _ => f2.1 70 j (by omega)) (by rw [hc2]; funext j; exact (if_neg (Nat.not_lt_zero _)).symm) s2 o2⟩
end
end
section
/-! part 80: copies from row to row, elements, what shelves hold: the class -/
def zK (h : zH) (s : Int) : Int := if ¬ (0 ≤ s ∧ s < 8) then 1 else if 100 ≤ (h s.toNat).1 then 0 else if (h s.toNat).1 = -1 then 3 else 2
def zN112 (h : zH) (p q : Int) : Int := if zK h p = 1 ∨ zK h q = 1 then 1 else if zK h p = 2 ∨ zK h q = 2 then 2 else if zK h p = 3 ∨ zK h q = 3 then 3 else if (h p.toNat).1 = (h q.toNat).1 then 0 else 2
def zcpy (a b : zHe) (i j n : Nat) : zHe := (b.1, b.2.1, fun k => if j ≤ k ∧ k < j + n then a.2.2 (i + (k - j)) else b.2.2 k)
def zN70 (h : zH) (p q i j n : Int) : Int × zH := if ¬ zN112 h p q = 0 then (-(zN112 h p q), h) else if n < 0 then (-4, h) else if i < 0 ∨ j < 0 ∨ (h p.toNat).2.1 < i + n ∨ (h q.toNat).2.1 < j + n then (-5, h) else (1, zput h q.toNat (zcpy (h p.toNat) (h q.toNat) i.toNat j.toNat n.toNat))
def zN73 (h : zH) (s : Int) : Int := if 0 ≤ s ∧ s < 8 then (h s.toNat).1 else -1
theorem zK_1 {h : zH} {s : Int} : zK h s = 1 ↔ ¬ (0 ≤ s ∧ s < 8) := by
  unfold zK
  split
  · exact iff_of_true rfl (by assumption)
  · refine iff_of_false ?_ (by assumption)
    split
    · decide
    · split <;> decide
theorem zK_0 {h : zH} {s : Int} : zK h s = 0 ↔ (0 ≤ s ∧ s < 8) ∧ 100 ≤ (h s.toNat).1 := by
  unfold zK
  split
  · rename_i g
    exact iff_of_false (by decide) (fun z => g z.1)
  · rename_i g
    split
    · rename_i g2
      exact iff_of_true rfl ⟨Decidable.not_not.mp g, g2⟩
    · rename_i g2
      refine iff_of_false ?_ (fun z => g2 z.2)
      split <;> decide
theorem zK_b {h : zH} {s : Int} : 0 ≤ zK h s ∧ zK h s ≤ 3 := by
  unfold zK
  split
  · decide
  · split
    · decide
    · split <;> decide
theorem zN112_b {h : zH} {p q : Int} : 0 ≤ zN112 h p q ∧ zN112 h p q ≤ 3 := by
  unfold zN112
  split
  · decide
  · split
    · decide
    · split
      · decide
      · split <;> decide
theorem zN112_0 {h : zH} {p q : Int} (e : zN112 h p q = 0) : ((0 ≤ p ∧ p < 8) ∧ 100 ≤ (h p.toNat).1) ∧ ((0 ≤ q ∧ q < 8) ∧ 100 ≤ (h q.toNat).1) ∧ (h p.toNat).1 = (h q.toNat).1 := by
  have bp := zK_b (h := h) (s := p)
  have bq := zK_b (h := h) (s := q)
  unfold zN112 at e
  split at e
  · cases e
  · split at e
    · cases e
    · split at e
      · cases e
      · split at e
        · exact ⟨zK_0.mp (by omega), zK_0.mp (by omega), by assumption⟩
        · cases e
section
variable {m : zf_Me}
theorem zs_111x {s : Int32} {Q : Int32 → zf_Me → Prop} (hq : ∀ x : Int32, x.toInt = zK (zhC m) s.toInt → Q x m) : wp_111 s m Q := by
  have c1 := fun (g : 0 ≤ s.toInt ∧ s.toInt < 8) => zhC_c (m := m) (s := s.toInt.toNat) (by omega)
  refine zs_111 (fun g hc => hq 0 ?_) (fun g => hq 1 (if_pos g).symm) (fun g hc hn => hq 2 ?_) (fun g hc => hq 3 ?_)
  · unfold zK
    rw [if_neg (fun z => z g), if_pos (by rw [c1 g]; exact hc)]
    rfl
  · unfold zK
    rw [if_neg (fun z => z g), if_neg (by rw [c1 g]; omega), if_neg (by rw [c1 g]; exact hn)]
    rfl
  · unfold zK
    rw [if_neg (fun z => z g), if_neg (by rw [c1 g]; omega), if_pos (by rw [c1 g]; exact hc)]
    rfl
theorem zs_112x {p q : Int32} {Q : Int32 → zf_Me → Prop} (hq : ∀ x : Int32, x.toInt = zN112 (zhC m) p.toInt q.toInt → Q x m) : wp_112 p q m Q := by
  refine zs_111x (fun x1 h1 => zs_111x (fun x3 h3 => ?_))
  have one : zK (zhC m) p.toInt = 1 ∨ zK (zhC m) q.toInt = 1 → Q 1 m := fun g => hq 1 (by unfold zN112; rw [if_pos g]; rfl)
  have two : ¬ (zK (zhC m) p.toInt = 1 ∨ zK (zhC m) q.toInt = 1) → zK (zhC m) p.toInt = 2 ∨ zK (zhC m) q.toInt = 2 → Q 2 m := fun n g => hq 2 (by unfold zN112; rw [if_neg n, if_pos g]; rfl)
  have tri : ¬ (zK (zhC m) p.toInt = 1 ∨ zK (zhC m) q.toInt = 1) → ¬ (zK (zhC m) p.toInt = 2 ∨ zK (zhC m) q.toInt = 2) → zK (zhC m) p.toInt = 3 ∨ zK (zhC m) q.toInt = 3 → Q 3 m := fun n n2 g => hq 3 (by unfold zN112; rw [if_neg n, if_neg n2, if_pos g]; rfl)
  have fin : ¬ (zK (zhC m) p.toInt = 1 ∨ zK (zhC m) q.toInt = 1) → ¬ (zK (zhC m) p.toInt = 2 ∨ zK (zhC m) q.toInt = 2) → ¬ (zK (zhC m) p.toInt = 3 ∨ zK (zhC m) q.toInt = 3) → zN112 (zhC m) p.toInt q.toInt = if (zhC m p.toInt.toNat).1 = (zhC m q.toInt.toNat).1 then 0 else 2 := fun n n2 n3 => by unfold zN112; rw [if_neg n, if_neg n2, if_neg n3]
  have bp := zK_b (h := zhC m) (s := p.toInt)
  have bq := zK_b (h := zhC m) (s := q.toInt)
  refine ⟨fun e => one (by omega), fun n1 => ⟨fun m1 => ⟨fun e => two (by omega) (by omega), fun n2 => ⟨fun m2 => ⟨fun e => tri (by omega) (by omega) (by omega), fun n3 => ⟨fun m3 => ?_, fun e => tri (by omega) (by omega) (by omega)⟩⟩, fun e => two (by omega) (by omega)⟩⟩, fun e => one (by omega)⟩⟩
  have f := fin (by omega) (by omega) (by omega)
  have gp := (zK_0 (h := zhC m) (s := p.toInt)).mp (by omega)
  have gq := (zK_0 (h := zhC m) (s := q.toInt)).mp (by omega)
  rw [zhC_c (s := p.toInt.toNat) (by omega), zhC_c (s := q.toInt.toNat) (by omega)] at f
  exact ⟨gp.1, gq.1, fun ne => hq 2 (by rw [f, if_neg ne]; rfl), fun eq => hq 0 (by rw [f, if_pos eq]; rfl)⟩
theorem zX_70 (hJ : JX m) {p q i j n : Int32} {Q : Int32 → zf_Me → Prop} (K : ∀ v m', (zq m m' ∨ zfS m m' ∧ zsz m') → v.toInt = (zN70 (zhC m) p.toInt q.toInt i.toInt j.toInt n.toInt).1 → zhC m' = (zN70 (zhC m) p.toInt q.toInt i.toInt j.toInt n.toInt).2 → Q v m') : wp_70 p q i j n m Q := by
  refine zs_112x (fun x1 h1 => ⟨fun e => ?_, fun ne => zC_noh (by have := zN112_b (h := zhC m) (p := p.toInt) (q := q.toInt); omega) K (by unfold zN70; rw [if_pos (by rw [← h1]; exact ne), h1])⟩)
  have z0 := h1.symm.trans e
  obtain ⟨⟨gp, rp⟩, ⟨gq, rq⟩, eq⟩ := zN112_0 z0
  have cp := zhC_c (m := m) (s := p.toInt.toNat) (by omega)
  have cq := zhC_c (m := m) (s := q.toInt.toNat) (by omega)
  have lp := zhC_l (m := m) (s := p.toInt.toNat) (by omega) (by rw [← cp]; exact rp)
  have lq := zhC_l (m := m) (s := q.toInt.toNat) (by omega) (by rw [← cq]; exact rq)
  have z1 := hJ.2.2 p.toInt.toNat (by omega)
  have z2 := hJ.2.2 q.toInt.toNat (by omega)
  have N0 : ¬ (¬ zN112 (zhC m) p.toInt q.toInt = 0) := fun z => z z0
  have five : ¬ (0 ≤ i.toInt ∧ 0 ≤ n.toInt ∧ i.toInt + n.toInt ≤ (m.1 (47 + 2 * p.toInt.toNat) 2).toInt) ∨ ¬ (0 ≤ j.toInt ∧ 0 ≤ n.toInt ∧ j.toInt + n.toInt ≤ (m.1 (47 + 2 * q.toInt.toNat) 2).toInt) → 0 ≤ n.toInt → wp_109 5 m (fun x m' => Q x m') := fun g n0 => zC_noh (by decide) K (by unfold zN70; rw [if_neg N0, if_neg (by omega), if_pos (by rw [lp, lq]; omega)]; rfl)
  refine ⟨fun n0 => ⟨gp, gq, zs_21 z1 (fun t1 => ⟨fun z => (nomatch z), fun _ => zs_21 z2 (fun t2 => ⟨fun _ => ⟨⟨by omega, by omega, by omega, by omega, by omega⟩, fun m13 q13 => ?_⟩, fun z => (nomatch z)⟩) (fun t2 => ⟨fun z => (nomatch z), fun _ => five (Or.inr t2) n0⟩)⟩) (fun t1 => ⟨fun _ => five (Or.inl t1) n0, fun z => (nomatch z)⟩)⟩, fun n0 => zC_noh (by decide) K (by unfold zN70; rw [if_neg N0, if_pos n0]; rfl)⟩
  have r : zN70 (zhC m) p.toInt q.toInt i.toInt j.toInt n.toInt = (1, zput (zhC m) q.toInt.toNat (zcpy (zhC m p.toInt.toNat) (zhC m q.toInt.toNat) i.toInt.toNat j.toInt.toNat n.toInt.toNat)) := by
    unfold zN70
    rw [if_neg N0, if_neg (by omega), if_neg (by rw [lp, lq]; omega)]
  have hS : zfS m m13 := by
    rw [q13]
    exact ⟨fun _ _ => rfl, fun a ha => if_neg (by omega)⟩
  refine K 1 m13 (Or.inr ⟨hS, by rw [q13]; exact hJ.2.2⟩) (by rw [r]; rfl) ?_
  rw [r]
  show zhC m13 = zput (zhC m) q.toInt.toNat _
  rw [zhC_put (m := m) (m' := m13) (s := q.toInt.toNat) (by omega) (fun k hk hne => ⟨by rw [q13]; rfl, by rw [q13]; exact if_neg (by omega)⟩)]
  congr 1
  have ap := zhC_at (m := m) (s := p.toInt.toNat) (by omega)
  have aq := zhC_at (m := m) (s := q.toInt.toNat) (by omega)
  have up : zhC m p.toInt.toNat = ((m.1 (47 + 2 * p.toInt.toNat) 1).toInt, (m.1 (47 + 2 * p.toInt.toNat) 2).toInt, fun (k : Nat) => if (k : Int) < (m.1 (47 + 2 * p.toInt.toNat) 2).toInt then m.2 (48 + 2 * p.toInt.toNat) k else 0) := ap.trans (if_pos (by rw [← cp]; exact rp))
  have uq : zhC m q.toInt.toNat = ((m.1 (47 + 2 * q.toInt.toNat) 1).toInt, (m.1 (47 + 2 * q.toInt.toNat) 2).toInt, fun (k : Nat) => if (k : Int) < (m.1 (47 + 2 * q.toInt.toNat) 2).toInt then m.2 (48 + 2 * q.toInt.toNat) k else 0) := aq.trans (if_pos (by rw [← cq]; exact rq))
  rw [up, uq, show m13.1 = m.1 by rw [q13]; rfl]
  unfold zcpy
  refine (if_pos (by rw [← cq]; exact rq) : znorm _ _ _ = _).trans ?_
  congr 2
  funext k
  have e13 : m13.2 (48 + 2 * q.toInt.toNat) k = if j.toInt.toNat ≤ k ∧ k < j.toInt.toNat + n.toInt.toNat then m.2 (48 + 2 * p.toInt.toNat) (i.toInt.toNat + (k - j.toInt.toNat)) else m.2 (48 + 2 * q.toInt.toNat) k := by
    rw [q13]
    simp [zf_cpl]
  show (if (k : Int) < (m.1 (47 + 2 * q.toInt.toNat) 2).toInt then m13.2 (48 + 2 * q.toInt.toNat) k else 0) = if j.toInt.toNat ≤ k ∧ k < j.toInt.toNat + n.toInt.toNat then (if ((i.toInt.toNat + (k - j.toInt.toNat) : Nat) : Int) < (m.1 (47 + 2 * p.toInt.toNat) 2).toInt then m.2 (48 + 2 * p.toInt.toNat) (i.toInt.toNat + (k - j.toInt.toNat)) else 0) else (if (k : Int) < (m.1 (47 + 2 * q.toInt.toNat) 2).toInt then m.2 (48 + 2 * q.toInt.toNat) k else 0)
  rw [e13]
  by_cases g : j.toInt.toNat ≤ k ∧ k < j.toInt.toNat + n.toInt.toNat
  · rw [if_pos g, if_pos g, if_pos (by omega), if_pos (by omega)]
  · rw [if_neg g, if_neg g]
theorem zX_71 (hJ : JX m) {s i : Int32} {Q : Int64 → zf_Me → Prop} (K : Q (zN71 (zhC m) s.toInt i.toInt) m) : wp_71 s i m Q := by
  refine zs_111x (fun x h => ⟨fun ne => ?_, fun e => ?_⟩)
  · have : zN71 (zhC m) s.toInt i.toInt = 0 := if_neg (fun z => ne (h.trans (zK_0.mpr ⟨z.1, z.2.1⟩)))
    rw [this] at K
    exact K
  · obtain ⟨g, r⟩ := zK_0.mp (h.symm.trans e)
    have c := zhC_c (m := m) (s := s.toInt.toNat) (by omega)
    have l := zhC_l (m := m) (s := s.toInt.toNat) (by omega) (by rw [← c]; exact r)
    have z1 := hJ.2.2 s.toInt.toNat (by omega)
    refine ⟨g, zs_20 (fun t => ⟨fun _ => ⟨g, ⟨by omega, by omega⟩, ?_⟩, fun z => (nomatch z)⟩) (fun t => ⟨fun z => (nomatch z), fun _ => ?_⟩)⟩
    · have u : zhC m s.toInt.toNat = ((m.1 (47 + 2 * s.toInt.toNat) 1).toInt, (m.1 (47 + 2 * s.toInt.toNat) 2).toInt, fun (k : Nat) => if (k : Int) < (m.1 (47 + 2 * s.toInt.toNat) 2).toInt then m.2 (48 + 2 * s.toInt.toNat) k else 0) := (zhC_at (m := m) (s := s.toInt.toNat) (by omega)).trans (if_pos (by rw [← c]; exact r))
      have : zN71 (zhC m) s.toInt i.toInt = m.2 (48 + 2 * s.toInt.toNat) i.toInt.toNat := by
        unfold zN71
        rw [if_pos ⟨g, r, by rw [l]; omega⟩, u]
        exact if_pos (by omega)
      rw [this] at K
      exact K
    · have : zN71 (zhC m) s.toInt i.toInt = 0 := if_neg (fun z => t (by have := z.2.2; rw [l] at this; exact this))
      rw [this] at K
      exact K
theorem zX_73 {s : Int32} {Q : Int32 → zf_Me → Prop} (K : ∀ v : Int32, v.toInt = zN73 (zhC m) s.toInt → Q v m) : wp_73 s m Q := by
  refine zs_114 (fun g => ⟨fun z => (nomatch z), fun _ => ⟨g, K _ ?_⟩⟩) (fun g => ⟨fun _ => K _ (if_neg g).symm, fun z => (nomatch z)⟩)
  unfold zN73
  rw [if_pos g, zhC_c (by omega)]
end
end
section
/-! part 81: copies from row to row, elements, what shelves hold: the reference -/
section
variable {m : zf_Me}
theorem zK_r (hJ : JM m) (ho : zso m) {s : Int32} (g : 0 ≤ s.toInt ∧ s.toInt < 8) : ((m.1 70 s.toInt.toNat).toInt = 1 → zK (zhR m) s.toInt = 0) ∧ ((m.1 70 s.toInt.toNat).toInt = 2 → zK (zhR m) s.toInt = 2) ∧ ((m.1 70 s.toInt.toNat).toInt = 0 → zK (zhR m) s.toInt = 3) := by
  have k := zhR_k hJ ho (s := s.toInt.toNat) (by omega)
  refine ⟨fun e => ?_, fun e => ?_, fun e => ?_⟩
  · exact zK_0.mpr ⟨g, (k.1 e).1⟩
  · have k2 := k.2.1 e
    unfold zK
    rw [if_neg (fun z => z g), if_neg (by omega), if_neg (by omega)]
  · have k3 := k.2.2 e
    unfold zK
    rw [if_neg (fun z => z g), if_neg (by omega), if_pos k3]
theorem zs_137x (hJ : JM m) (ho : zso m) {s : Int32} {Q : Int32 → zf_Me → Prop} (hq : ∀ x : Int32, x.toInt = -(zK (zhR m) s.toInt) → Q x m) : wp_137 s m Q := by
  refine zs_127 (fun g => ?_) (fun g => ⟨fun z => (nomatch z), fun _ => hq (-1) (by rw [zK_1.mpr g]; rfl)⟩)
  have k := zK_r hJ ho g
  have b := (hJ.2.1 s.toInt.toNat (by omega)).1
  refine ⟨fun _ => ⟨g, fun n2 => ⟨g, fun n0 => hq 0 (by rw [k.1 (by omega)]; rfl), fun e => hq (-3) (by rw [k.2.2 e]; rfl)⟩, fun e => hq (-2) (by rw [k.2.1 e]; rfl)⟩, fun z => (nomatch z)⟩
theorem zl_132 {p q i j n : Int32} (gp : 0 ≤ p.toInt ∧ p.toInt < 8) (gq : 0 ≤ q.toInt ∧ q.toInt < 8) (hi : 0 ≤ i.toInt) (hj : 0 ≤ j.toInt) (hn : 0 ≤ n.toInt) (h1 : i.toInt + n.toInt ≤ 160) (h2 : j.toInt + n.toInt ≤ 160) {Q : Int32 → zf_Me → Prop} (K : ∀ m', m'.1 = m.1 → (∀ a, a < 63 → m'.2 a = m.2 a) → (∀ x, m'.2 74 x = if 160 * q.toInt.toNat + j.toInt.toNat ≤ x ∧ x < 160 * q.toInt.toNat + j.toInt.toNat + n.toInt.toNat then m.2 74 (160 * p.toInt.toNat + i.toInt.toNat + (x - (160 * q.toInt.toNat + j.toInt.toNat))) else m.2 74 x) → Q 1 m') : ∃ n167, wq_132_167 p q i j n Q n167 0 m := by
  have e1 : (1 : Int32).toInt = 1 := rfl
  have tp := zix (s := p) (i := i) gp (by omega)
  have tq := zix (s := q) (i := j) gq (by omega)
  have lp2 : ∀ (k : Nat) (v : Int32) (mj : zf_Me), 0 ≤ v.toInt → v.toInt ≤ n.toInt → n.toInt - v.toInt < k → mj.1 = m.1 → (∀ a, a < 63 → mj.2 a = m.2 a) → (∀ l : Nat, (l : Int) < n.toInt → mj.2 75 l = m.2 74 (160 * p.toInt.toNat + i.toInt.toNat + l)) → (∀ x, mj.2 74 x = if 160 * q.toInt.toNat + j.toInt.toNat ≤ x ∧ x < 160 * q.toInt.toNat + j.toInt.toNat + v.toInt.toNat then m.2 74 (160 * p.toInt.toNat + i.toInt.toNat + (x - (160 * q.toInt.toNat + j.toInt.toNat))) else m.2 74 x) → wq_132_205 p q i j n Q k v mj := by
    intro k
    induction k with
    | zero => intro v mj k0 k1 k2; omega
    | succ k ih =>
      intro v mj k0 k1 k2 f1 f2 f3 f4
      refine ⟨fun g => K mj f1 f2 (fun x => ?_), fun g => ?_⟩
      · rw [f4 x, show v.toInt.toNat = n.toInt.toNat by omega]
      · have t := fb_addI (x := 160 * q + j) (y := v) (by omega) (by omega)
        have t2 := fb_addI (x := v) (y := 1) (by omega) (by omega)
        have ei : (160 * q + j + v).toInt.toNat = 160 * q.toInt.toNat + j.toInt.toNat + v.toInt.toNat := by omega
        have ev : (v + 1).toInt.toNat = v.toInt.toNat + 1 := by omega
        refine ⟨by omega, ⟨by omega, by omega⟩, fun m19 q19 => ih _ m19 (by omega) (by omega) (by omega) (by rw [q19]; exact f1) (fun a ha => ?_) (fun l hl => ?_) (fun x => ?_)⟩
        · rw [q19]
          exact (if_neg (by omega)).trans (f2 a ha)
        · rw [q19]
          exact f3 l hl
        · rw [q19, ei, ev]
          by_cases ee : x = 160 * q.toInt.toNat + j.toInt.toNat + v.toInt.toNat
          · rw [ee, zf_ul3, f3 _ (by omega), if_pos (by omega)]
            exact congrArg (m.2 74) (by omega)
          · rw [zf_ul4 ee, f4 x]
            by_cases g2 : 160 * q.toInt.toNat + j.toInt.toNat ≤ x ∧ x < 160 * q.toInt.toNat + j.toInt.toNat + v.toInt.toNat
            · rw [if_pos g2, if_pos (by omega)]
            · rw [if_neg g2, if_neg (by omega)]
  have lp1 : ∀ (k : Nat) (v : Int32) (mj : zf_Me), 0 ≤ v.toInt → v.toInt ≤ n.toInt → n.toInt - v.toInt < k → mj.1 = m.1 → (∀ a, ¬ a = 75 → mj.2 a = m.2 a) → (∀ l : Nat, (l : Int) < v.toInt → mj.2 75 l = m.2 74 (160 * p.toInt.toNat + i.toInt.toNat + l)) → wq_132_167 p q i j n Q k v mj := by
    intro k
    induction k with
    | zero => intro v mj k0 k1 k2; omega
    | succ k ih =>
      intro v mj k0 k1 k2 f1 f2 f3
      refine ⟨fun g => ⟨162, lp2 162 0 mj (by decide) hn (by show n.toInt - 0 < 162; omega) f1 (fun a ha => f2 a (by omega)) (fun l hl => f3 l (by omega)) (fun x => ?_)⟩, fun g => ?_⟩
      · rw [f2 74 (by decide), if_neg (by show ¬ (_ ∧ _ < _ + 0); omega)]
      · have t := fb_addI (x := 160 * p + i) (y := v) (by omega) (by omega)
        have t2 := fb_addI (x := v) (y := 1) (by omega) (by omega)
        have ei : (160 * p + i + v).toInt.toNat = 160 * p.toInt.toNat + i.toInt.toNat + v.toInt.toNat := by omega
        refine ⟨⟨by omega, by omega⟩, by omega, fun m21 q21 => ih _ m21 (by omega) (by omega) (by omega) (by rw [q21]; exact f1) (fun a ha => ?_) (fun l hl => ?_)⟩
        · rw [q21]
          exact (if_neg ha).trans (f2 a ha)
        · rw [q21, ei]
          by_cases ee : l = v.toInt.toNat
          · rw [ee, zf_ul3, f2 74 (by decide)]
          · rw [zf_ul4 ee]
            exact f3 l (by omega)
  exact ⟨162, lp1 162 0 m (by decide) hn (by show n.toInt - 0 < 162; omega) rfl (fun _ _ => rfl) (fun l hl => absurd (show (l : Int) < 0 from hl) (by omega))⟩
theorem zY_132 (hJ : JM m) (ho : zso m) {p q i j n : Int32} {Q : Int32 → zf_Me → Prop} (K : ∀ v m', (zgQ m m' ∧ zr m' = zr m ∨ zgH m m' ∧ zsR m' ∧ zso m') → v.toInt = (zN70 (zhR m) p.toInt q.toInt i.toInt j.toInt n.toInt).1 → zhR m' = (zN70 (zhR m) p.toInt q.toInt i.toInt j.toInt n.toInt).2 → Q v m') : wp_132 p q i j n m Q := by
  have no := fun {w : Int32} (hw : -8 < w.toInt ∧ w.toInt ≤ 0) (e : zN70 (zhR m) p.toInt q.toInt i.toInt j.toInt n.toInt = (w.toInt, zhR m)) => zR_noh (m := m) (Q := Q) hw K (fun m' => zhR_q) e
  have c : ∀ {w : Int}, ¬ w = 0 → zN112 (zhR m) p.toInt q.toInt = w → zN70 (zhR m) p.toInt q.toInt i.toInt j.toInt n.toInt = (-w, zhR m) := fun h e => by unfold zN70; rw [e, if_pos h]
  have one : zK (zhR m) p.toInt = 1 ∨ zK (zhR m) q.toInt = 1 → wp_125 (-1) m (fun x m' => Q x m') := fun g => no (by decide) (c (w := 1) (by decide) (if_pos g))
  refine zs_127 (fun gp => ⟨fun z => (nomatch z), fun _ => zs_127 (fun gq => ⟨fun _ => ?_, fun z => (nomatch z)⟩) (fun gq => ⟨fun z => (nomatch z), fun _ => one (Or.inr (zK_1.mpr gq))⟩)⟩) (fun gp => ⟨fun _ => one (Or.inl (zK_1.mpr gp)), fun z => (nomatch z)⟩)
  have kp := zK_r hJ ho gp
  have kq := zK_r hJ ho gq
  have bp := hJ.2.1 p.toInt.toNat (by omega)
  have bq := hJ.2.1 q.toInt.toNat (by omega)
  have n1 : ¬ (zK (zhR m) p.toInt = 1 ∨ zK (zhR m) q.toInt = 1) := fun z => z.elim (fun z => zK_1.mp z gp) (fun z => zK_1.mp z gq)
  have two : zK (zhR m) p.toInt = 2 ∨ zK (zhR m) q.toInt = 2 → wp_125 (-2) m (fun x m' => Q x m') := fun g => no (by decide) (c (w := 2) (by decide) (by unfold zN112; rw [if_neg n1, if_pos g]))
  have rp := zhR_k hJ ho (s := p.toInt.toNat) (by omega)
  have rq := zhR_k hJ ho (s := q.toInt.toNat) (by omega)
  have t84 : ¬ (m.1 70 p.toInt.toNat).toInt = 2 → ¬ (m.1 70 q.toInt.toNat).toInt = 2 → ((m.1 70 p.toInt.toNat).toInt = 1 → (m.1 70 q.toInt.toNat).toInt = 1 → (m.1 71 p.toInt.toNat).toInt = (m.1 71 q.toInt.toNat).toInt) → wq_132_84 p q i j n m Q := by
    intro a1 a2 a3
    have n2 : ¬ (zK (zhR m) p.toInt = 2 ∨ zK (zhR m) q.toInt = 2) := by
      have p1 : ¬ zK (zhR m) p.toInt = 2 := by
        by_cases e : (m.1 70 p.toInt.toNat).toInt = 1
        · rw [kp.1 e]; decide
        · rw [kp.2.2 (by omega)]; decide
      have p2 : ¬ zK (zhR m) q.toInt = 2 := by
        by_cases e : (m.1 70 q.toInt.toNat).toInt = 1
        · rw [kq.1 e]; decide
        · rw [kq.2.2 (by omega)]; decide
      exact fun z => z.elim p1 p2
    have tri : zK (zhR m) p.toInt = 3 ∨ zK (zhR m) q.toInt = 3 → wp_125 (-3) m (fun x m' => Q x m') := fun g => no (by decide) (c (w := 3) (by decide) (by unfold zN112; rw [if_neg n1, if_neg n2, if_pos g]))
    refine ⟨gp, fun z => tri (Or.inl (kp.2.2 z)), fun zp => ⟨gq, fun zq => ?_, fun z => tri (Or.inr (kq.2.2 z))⟩⟩
    have hp : (m.1 70 p.toInt.toNat).toInt = 1 := by omega
    have hq : (m.1 70 q.toInt.toNat).toInt = 1 := by omega
    have so := a3 hp hq
    have vp := rp.1 hp
    have vq := rq.1 hq
    have z0 : zN112 (zhR m) p.toInt q.toInt = 0 := by
      unfold zN112
      rw [if_neg n1, if_neg n2, if_neg (by rw [kp.1 hp, kq.1 hq]; decide), if_pos (by rw [vp.2.2.1, vq.2.2.1, so])]
    have N0 : ¬ (¬ zN112 (zhR m) p.toInt q.toInt = 0) := fun z => z z0
    have five : 0 ≤ n.toInt → (i.toInt < 0 ∨ j.toInt < 0 ∨ (m.1 72 p.toInt.toNat).toInt < i.toInt + n.toInt ∨ (m.1 72 q.toInt.toNat).toInt < j.toInt + n.toInt) → wp_125 (-5) m (fun x m' => Q x m') := fun g0 g => no (by decide) (by unfold zN70; rw [if_neg N0, if_neg (by omega), if_pos (by rw [vp.2.1, vq.2.1]; exact g)]; rfl)
    refine ⟨fun g0 => ⟨fun g => five g0 (Or.inl g), fun gi => ⟨fun g => five g0 (Or.inr (Or.inl g)), fun gj => ⟨gp, ?_⟩⟩⟩, fun g => no (by decide) (by unfold zN70; rw [if_neg N0, if_pos g]; rfl)⟩
    have rn := fb_rng n
    have sp := fb_subI (x := m.1 72 p.toInt.toNat) (y := n) (by omega) (by omega)
    have sq := fb_subI (x := m.1 72 q.toInt.toNat) (y := n) (by omega) (by omega)
    refine ⟨fun g => five g0 (Or.inr (Or.inr (Or.inl (by omega)))), fun l1 => ⟨gq, fun l2 => ?_, fun g => five g0 (Or.inr (Or.inr (Or.inr (by omega))))⟩⟩
    refine zl_132 gp gq (by omega) (by omega) g0 (by omega) (by omega) (fun m' f1 f2 f3 => ?_)
    have r : zN70 (zhR m) p.toInt q.toInt i.toInt j.toInt n.toInt = (1, zput (zhR m) q.toInt.toNat (zcpy (zhR m p.toInt.toNat) (zhR m q.toInt.toNat) i.toInt.toNat j.toInt.toNat n.toInt.toNat)) := by
      unfold zN70
      rw [if_neg N0, if_neg (by omega), if_neg (by rw [vp.2.1, vq.2.1]; omega)]
    refine K 1 m' (Or.inr ⟨⟨fun a _ => by rw [f1], f2⟩, by unfold zsR; rw [f1]; exact hJ.2.1, by unfold zso; rw [f1]; exact ho⟩) (by rw [r]; rfl) ?_
    rw [r]
    show zhR m' = zput (zhR m) q.toInt.toNat _
    rw [zhR_put (m := m) (m' := m') (s := q.toInt.toNat) (by omega) (fun k hk hne => ⟨by rw [f1], by rw [f1], by rw [f1], by rw [f1], fun x hx => by rw [f3, if_neg (by omega)]⟩) hJ.2.1]
    congr 1
    rw [f1]
    have cz : zcode (m.1 70 q.toInt.toNat).toInt (m.1 71 q.toInt.toNat).toInt (m.1 73 q.toInt.toNat).toInt = 100 + (m.1 71 q.toInt.toNat).toInt := if_pos hq
    rw [cz]
    have oq := ho q.toInt.toNat (by omega) hq
    unfold zcpy
    rw [vq.2.2.1, vq.2.1]
    refine (if_pos (by omega) : znorm _ _ _ = _).trans ?_
    congr 2
    funext k
    by_cases lk : (k : Int) < (m.1 72 q.toInt.toNat).toInt
    · rw [if_pos lk, f3]
      by_cases g : j.toInt.toNat ≤ k ∧ k < j.toInt.toNat + n.toInt.toNat
      · rw [if_pos g, if_pos (by omega), vp.2.2.2 _ (by omega)]
        exact congrArg (m.2 74) (by omega)
      · rw [if_neg g, if_neg (by omega), vq.2.2.2 _ lk]
    · rw [if_neg lk, if_neg (by omega)]
      have a := zhR_at (m := m) (s := q.toInt.toNat) (by omega)
      rw [cz] at a
      rw [a]
      unfold znorm
      rw [if_pos (by omega)]
      exact (if_neg lk).symm
  refine ⟨gp, fun e => two (Or.inl (kp.2.1 e)), fun np => ⟨gq, fun e => two (Or.inr (kq.2.1 e)), fun nq => ⟨gp, fun n1' => t84 np nq (fun z => absurd z n1'), fun e1 => ⟨gq, fun n2' => t84 np nq (fun _ z => absurd z n2'), fun e2 => ⟨gp, gq, fun so => t84 np nq (fun _ _ => so), fun ne => no (by decide) (c (w := 2) (by decide) ?_)⟩⟩⟩⟩⟩
  have vp := rp.1 e1
  have vq := rq.1 e2
  unfold zN112
  rw [if_neg n1, if_neg (by rw [kp.1 e1, kq.1 e2]; decide), if_neg (by rw [kp.1 e1, kq.1 e2]; decide), if_neg (by rw [vp.2.2.1, vq.2.2.1]; omega)]
theorem zY_133 (hJ : JM m) (ho : zso m) {s i : Int32} {Q : Int64 → zf_Me → Prop} (K : Q (zN71 (zhR m) s.toInt i.toInt) m) : wp_133 s i m Q := by
  have zero : ¬ ((0 ≤ s.toInt ∧ s.toInt < 8) ∧ 100 ≤ (zhR m s.toInt.toNat).1 ∧ 0 ≤ i.toInt ∧ i.toInt < (zhR m s.toInt.toNat).2.1) → Q 0 m := fun g => by
    have : zN71 (zhR m) s.toInt i.toInt = 0 := if_neg g
    rw [this] at K
    exact K
  refine zs_127 (fun g => ⟨fun z => (nomatch z), fun _ => ⟨g, fun n1 => zero (fun z => ?_), fun e1 => ?_⟩⟩) (fun g => ⟨fun _ => zero (fun z => g z.1), fun z => (nomatch z)⟩)
  · have k := zhR_k hJ ho (s := s.toInt.toNat) (by omega)
    have b := hJ.2.1 s.toInt.toNat (by omega)
    have z2 := z.2.1
    by_cases e2 : (m.1 70 s.toInt.toNat).toInt = 2
    · have := k.2.1 e2
      omega
    · have := k.2.2 (by omega)
      omega
  · have k := (zhR_k hJ ho (s := s.toInt.toNat) (by omega)).1 e1
    have b := hJ.2.1 s.toInt.toNat (by omega)
    refine ⟨fun g1 => zero (fun z => by have := z.2.2.1; omega), fun g1 => ⟨g, fun g2 => zero (fun z => by have := z.2.2.2; rw [k.2.1] at this; omega), fun g2 => ?_⟩⟩
    have t := zix (s := s) (i := i) g (by omega)
    refine ⟨by omega, ?_⟩
    have : zN71 (zhR m) s.toInt i.toInt = m.2 74 (160 * s + i).toInt.toNat := by
      unfold zN71
      rw [if_pos ⟨g, k.1, g1, by rw [k.2.1]; exact g2⟩, k.2.2.2 _ (by omega)]
      exact congrArg (m.2 74) (by omega)
    rw [this] at K
    exact K
theorem zY_135 (hJ : JM m) (ho : zso m) {s : Int32} {Q : Int32 → zf_Me → Prop} (K : ∀ v : Int32, v.toInt = zN73 (zhR m) s.toInt → Q v m) : wp_135 s m Q := by
  refine zs_127 (fun g => ⟨fun z => (nomatch z), fun _ => ?_⟩) (fun g => ⟨fun _ => K _ (if_neg g).symm, fun z => (nomatch z)⟩)
  have k := zhR_k hJ ho (s := s.toInt.toNat) (by omega)
  have b := hJ.2.1 s.toInt.toNat (by omega)
  have e100 : (100 : Int32).toInt = 100 := rfl
  have v : zN73 (zhR m) s.toInt = (zhR m s.toInt.toNat).1 := if_pos g
  refine ⟨g, fun n0 => ⟨g, fun n1 => ⟨g, K _ ?_⟩, fun e1 => ⟨g, K _ ?_⟩⟩, fun e0 => K _ ?_⟩
  · rw [v, (k.2.1 (by omega)).1]
  · have o := ho s.toInt.toNat (by omega) e1
    rw [v, (k.1 e1).2.2.1, fb_addI (by omega) (by omega), e100]
  · rw [v, k.2.2 e0]
    rfl
end
end
section
/-! part 82: what calls answer of the walk as it stands, as functions: the class -/
def zN77 (f : zS) (u w : Int) : Int := if ¬ (0 ≤ u ∧ u < f 5 5) then -15 else if w = 0 then f 0 u.toNat else if w = 1 then f 1 u.toNat else -15
def zN78 (f : zS) (u w : Int) : Int := if ¬ (0 ≤ u ∧ u < f 5 6) then -5 else if w = 0 then f 2 u.toNat else if w = 1 then f 3 u.toNat else if w = 2 then f 4 u.toNat else if w = 3 then (if f 5 7 = u then 1 else 0) else -5
def zN84 (f : zS) (p u : Int) : Int := if ¬ (0 ≤ p ∧ p < f 5 6) then -1 else if ¬ (0 ≤ u ∧ u < f 5 5) then -5 else zload f p.toNat (f 0 u.toNat)
def zN85 (f : zS) (a : Int) : Int := if a < 0 ∨ 9 < a then -6 else if zmay f a then 1 else 0
def zundB (k a : Int) : Bool := decide (a = 0 ∨ a = k ∨ (a = 1 ∧ k = 3) ∨ (a = 2 ∧ k = 5) ∨ (a = 4 ∧ k = 6))
theorem zund_i {k a : Int} : zundB k a = true ↔ (a = 0 ∨ a = k ∨ (a = 1 ∧ k = 3) ∨ (a = 2 ∧ k = 5) ∨ (a = 4 ∧ k = 6)) := decide_eq_true_iff
def zsay (f : zS) (p : Nat) (k : Int) : Int := if k = 0 then f 4 p else if k = 1 ∨ k = 3 then (if f 2 p = 3 then 3 else 2) else if k = 2 ∨ k = 5 then (if f 5 9 < f 5 1 then 0 else 1) else zload f p 0
def zN74 (h : zH) (f : zS) (s k : Int) : Int := if ¬ (0 ≤ s ∧ s < 8) ∨ ¬ (0 ≤ k ∧ k < 7) then -1 else if (h s.toNat).1 = -1 then -3 else if ¬ (0 ≤ (h s.toNat).1 ∧ (h s.toNat).1 < f 5 6) then -2 else if ¬ zundB (f 2 (h s.toNat).1.toNat) k = true then -2 else zsay f (h s.toNat).1.toNat k
def zleast (f : zS) (v : Int) : Nat → Nat
  | 0 => 0
  | n + 1 => if n = 0 then 0 else if zload f n v < zload f (zleast f v n) v then n else zleast f v n
def zN90 (f : zS) (u : Int) : Int := if ¬ (0 ≤ u ∧ u < f 5 5) ∨ f 5 6 = 0 then -5 else ((zleast f (f 0 u.toNat) (f 5 6).toNat : Nat) : Int)
theorem zleast_lt {f : zS} {v : Int} : ∀ n, 0 < n → zleast f v n < n
  | 0, h => absurd h (Nat.lt_irrefl 0)
  | n + 1, _ => by
    unfold zleast
    split
    · omega
    · split
      · omega
      · have := zleast_lt (f := f) (v := v) n (by omega)
        omega
section
variable {m : zf_Me}
theorem zC_q {A : Int} {w : Int32} {Q : Int32 → zf_Me → Prop} (hw : 0 ≤ w.toInt ∧ w.toInt < 8) (K : ∀ v m', zq m m' → v.toInt = A → Q v m') (e : A = -w.toInt) : wp_109 w m Q :=
  zs_109 hw (fun m' f => K _ m' (zfr_mono f (fun a ha => by omega)) (by rw [e]; exact fb_negI (by omega)))
theorem zC_q10 {A : Int} {w : Int32} {Q : Int32 → zf_Me → Prop} (hw : 0 ≤ w.toInt ∧ w.toInt < 8) (K : ∀ v m', zq m m' → v.toInt = A → Q v m') (e : A = -w.toInt - 10) : wp_110 w m Q := by
  have e10 : (10 : Int32).toInt = 10 := rfl
  have n := fb_negI (x := w) (by omega)
  have s := fb_subI (x := -10) (y := w) (by show -2147483648 ≤ (-10 : Int) - _; omega) (by show (-10 : Int) - _ < _; omega)
  have t := fb_subI (x := -w) (y := 10) (by omega) (by omega)
  refine ⟨hw, hw, fun m1 q1 => K _ m1 (by rw [q1]; exact zfr_u zfr_refl (by omega)) ?_⟩
  rw [e]
  first
    | (rw [s]; show (-10 : Int) - _ = _; omega)
    | (rw [t]; omega)
theorem zA_77 (hJ : JX m) {f w : Int32} {Q : Int32 → zf_Me → Prop} (K : ∀ (v : Int32) (m' : zf_Me), zq m m' → v.toInt = zN77 (zv 2 3 8 m) f.toInt w.toInt → Q v m') : wp_77 f w m Q := by
  have b := zB_v hJ.1
  have p : zv 2 3 8 m 5 5 = (m.1 3 4).toInt := rfl
  have no : ¬ ((0 ≤ f.toInt ∧ f.toInt < (m.1 3 4).toInt) ∧ (w.toInt = 0 ∨ w.toInt = 1)) → wp_110 5 m (fun x m' => Q x m') := fun g => zC_q10 (by decide) K (by
    unfold zN77
    by_cases h : 0 ≤ f.toInt ∧ f.toInt < (m.1 3 4).toInt
    · rw [if_neg (by omega), if_neg (by omega), if_neg (by omega)]
      rfl
    · rw [if_pos (by omega)]
      rfl)
  refine zs_64t (fun g => ⟨fun z => (nomatch z), fun _ => ⟨fun _ => no (by omega), fun _ => ⟨fun _ => ⟨fun _ => ⟨by omega, K _ m zfr_refl ?_⟩, fun _ => ⟨by omega, K _ m zfr_refl ?_⟩⟩, fun _ => no (by omega)⟩⟩⟩) (fun _ => ⟨fun _ => no (by omega), fun z => (nomatch z)⟩)
  · unfold zN77
    rw [if_neg (by omega), if_neg (by omega), if_pos (by omega)]
    exact (zN_lt (by omega)).symm
  · unfold zN77
    rw [if_neg (by omega), if_pos (by omega)]
    exact (zN_lt (by omega)).symm
theorem zA_78 (hJ : JX m) {f w : Int32} {Q : Int32 → zf_Me → Prop} (K : ∀ (v : Int32) (m' : zf_Me), zq m m' → v.toInt = zN78 (zv 2 3 8 m) f.toInt w.toInt → Q v m') : wp_78 f w m Q := by
  have b := zB_v hJ.1
  have p : zv 2 3 8 m 5 6 = (m.1 3 5).toInt := rfl
  have p7 : zv 2 3 8 m 5 7 = (m.1 2 2).toInt := rfl
  have no : ¬ ((0 ≤ f.toInt ∧ f.toInt < (m.1 3 5).toInt) ∧ 0 ≤ w.toInt ∧ w.toInt ≤ 3) → wp_109 5 m (fun x m' => Q x m') := fun g => zC_q (by decide) K (by
    unfold zN78
    by_cases h : 0 ≤ f.toInt ∧ f.toInt < (m.1 3 5).toInt
    · rw [if_neg (by omega), if_neg (by omega), if_neg (by omega), if_neg (by omega), if_neg (by omega)]
      rfl
    · rw [if_pos (by omega)]
      rfl)
  refine zs_65t (fun g => ⟨fun _ => ⟨fun _ => no (by omega), fun _ => ⟨by omega, K _ m zfr_refl ?_⟩, fun _ => ⟨by omega, K _ m zfr_refl ?_⟩, fun _ => ⟨by omega, K _ m zfr_refl ?_⟩, fun _ => ⟨fun _ => K _ m zfr_refl ?_, fun _ => K _ m zfr_refl ?_⟩⟩, fun z => (nomatch z)⟩) (fun _ => ⟨fun z => (nomatch z), fun _ => no (by omega)⟩)
  · unfold zN78
    rw [if_neg (by omega), if_pos (by omega)]
    exact (zN_lt (by omega)).symm
  · unfold zN78
    rw [if_neg (by omega), if_neg (by omega), if_pos (by omega)]
    exact (zN_lt (by omega)).symm
  · unfold zN78
    rw [if_neg (by omega), if_neg (by omega), if_neg (by omega), if_pos (by omega)]
    exact (zN_lt (by omega)).symm
  · unfold zN78
    rw [if_neg (by omega), if_neg (by omega), if_neg (by omega), if_neg (by omega), if_pos (by omega), if_neg (by omega)]
    rfl
  · unfold zN78
    rw [if_neg (by omega), if_neg (by omega), if_neg (by omega), if_neg (by omega), if_pos (by omega), if_pos (by omega)]
    rfl
theorem zA_84 (hJ : JX m) {p f : Int32} {Q : Int32 → zf_Me → Prop} (K : ∀ (v : Int32) (m' : zf_Me), zq m m' → v.toInt = zN84 (zv 2 3 8 m) p.toInt f.toInt → Q v m') : wp_84 p f m Q := by
  have b := zB_v hJ.1
  have p5 : zv 2 3 8 m 5 5 = (m.1 3 4).toInt := rfl
  have p6 : zv 2 3 8 m 5 6 = (m.1 3 5).toInt := rfl
  refine zs_65t (fun g => ⟨fun _ => zs_64t (fun g2 => ⟨fun _ => ⟨by omega, zs_51 hJ.1 (by omega) ?_ (fun x hx => K _ m zfr_refl ?_)⟩, fun z => (nomatch z)⟩) (fun g2 => ⟨fun z => (nomatch z), fun _ => zC_q (by decide) K ?_⟩), fun z => (nomatch z)⟩) (fun g => ⟨fun z => (nomatch z), fun _ => zC_q (by decide) K ?_⟩)
  · have := zB_v2 hJ.1 (k := f.toInt.toNat) (by omega)
    exact ⟨this.1, this.2.1⟩
  · unfold zN84
    rw [if_neg (by omega), if_neg (by omega), hx]
    congr 1
    exact (zN_lt (by omega)).symm
  · unfold zN84
    rw [if_neg (by omega), if_pos (by omega)]
    rfl
  · unfold zN84
    rw [if_pos (by omega)]
    rfl
theorem zA_85 (hJ : JX m) {a : Int32} {Q : Int32 → zf_Me → Prop} (K : ∀ (v : Int32) (m' : zf_Me), zq m m' → v.toInt = zN85 (zv 2 3 8 m) a.toInt → Q v m') : wp_85 a m Q := by
  refine ⟨fun g => zC_q (by decide) K (if_pos (Or.inl g)), fun g => ⟨fun g2 => zs_52 hJ.1 (fun b hb => ⟨fun e => K _ m zfr_refl ?_, fun e => K _ m zfr_refl ?_⟩), fun g2 => zC_q (by decide) K (if_pos (Or.inr (by omega)))⟩⟩
  · unfold zN85
    rw [if_neg (by omega), if_neg (zno hb e)]
    rfl
  · unfold zN85
    rw [if_neg (by omega), if_pos (hb.mp e)]
    rfl
theorem zs_117x {k a : Int32} (hk : 0 ≤ k.toInt ∧ k.toInt < 7) (ha : 0 ≤ a.toInt ∧ a.toInt < 7) {Q : Bool → zf_Me → Prop} (hq : ∀ b, (b = true ↔ zundB k.toInt a.toInt = true) → Q b m) : wp_117 k a m Q := by
  have e1 : (1 : Int32).toInt = 1 := rfl
  have em1 : (-1 : Int32).toInt = -1 := rfl
  have ab : ∀ n : Nat, n < 7 → ((zx_sa.getD 0 []).getD n 0).toInt = (if n = 0 then -1 else if n = 3 then 1 else if n = 5 then 2 else if n = 6 then 4 else 0 : Int) := by decide
  have lp : ∀ (n : Nat) (v2 v3 : Int32), 0 ≤ v3.toInt → v3.toInt ≤ 7 → 7 - v3.toInt < n → -1 ≤ v2.toInt → v2.toInt < 7 → (v2.toInt = -1 → ¬ zundB k.toInt a.toInt = true) → (0 ≤ v2.toInt → (zundB k.toInt a.toInt = true ↔ zundB v2.toInt a.toInt = true)) → (v3.toInt = 0 → 0 ≤ v2.toInt) → (v3.toInt = 1 → v2.toInt ≤ 4 ∧ ¬ v2.toInt = 3) → (v3.toInt = 2 → v2.toInt ≤ 0) → (3 ≤ v3.toInt → v2.toInt = -1) → wq_117_4 k a Q n v2 v3 m := by
    intro n
    induction n with
    | zero => intro v2 v3 h0 h1 h2; omega
    | succ n ih =>
      intro v2 v3 h0 h1 h2 c0 c1 c2 c3 d0 d1 d2 d3
      refine ⟨fun g => hq _ (zb_f (c2 (d3 (by omega)))), fun g => zs_115 (fun g2 => ⟨fun z => (nomatch z), fun _ => ⟨fun ne => ⟨g2, ?_⟩, fun eq => hq _ (zb_t ((c3 g2.1).mpr (zund_i.mpr (Or.inr (Or.inl eq.symm)))))⟩⟩) (fun g2 => ⟨fun _ => hq _ (zb_f (c2 (by omega))), fun z => (nomatch z)⟩)⟩
      have s := fb_addI (x := v3) (y := 1) (by omega) (by omega)
      have e := ab v2.toInt.toNat (by omega)
      have u := c3 g2.1
      have st : ((zx_sa.getD 0 []).getD v2.toInt.toNat 0).toInt = (if v2.toInt = 0 then -1 else if v2.toInt = 3 then 1 else if v2.toInt = 5 then 2 else if v2.toInt = 6 then 4 else 0 : Int) := by
        rw [e]
        have q : ∀ j : Nat, (v2.toInt.toNat = j ↔ v2.toInt = (j : Int)) := fun j => by omega
        simp only [q 0, q 3, q 5, q 6]
        rfl
      have cs : ((zx_sa.getD 0 []).getD v2.toInt.toNat 0).toInt = -1 ∧ v2.toInt = 0 ∨ ((zx_sa.getD 0 []).getD v2.toInt.toNat 0).toInt = 1 ∧ v2.toInt = 3 ∨ ((zx_sa.getD 0 []).getD v2.toInt.toNat 0).toInt = 2 ∧ v2.toInt = 5 ∨ ((zx_sa.getD 0 []).getD v2.toInt.toNat 0).toInt = 4 ∧ v2.toInt = 6 ∨ ((zx_sa.getD 0 []).getD v2.toInt.toNat 0).toInt = 0 ∧ (v2.toInt = 1 ∨ v2.toInt = 2 ∨ v2.toInt = 4) := by
        rw [st]
        repeat' split
        all_goals omega
      refine ih _ _ (by omega) (by omega) (by omega) (by omega) (by omega) (fun z => ?_) (fun z => ?_) (by omega) (by omega) (by omega) (by omega)
      · rw [u, zund_i]
        clear c2 c3 u
        omega
      · rw [u, zund_i, zund_i]
        clear c2 c3 u
        omega
  exact ⟨9, lp 9 k 0 (by decide) (by decide) (by decide) (by omega) hk.2 (fun z => by omega) (fun _ => Iff.rfl) (fun _ => hk.1) (fun z => absurd z (by decide)) (fun z => absurd z (by decide)) (fun z => absurd z (by decide))⟩
theorem zA_74 (hJ : JX m) {s k : Int32} {Q : Int32 → zf_Me → Prop} (K : ∀ (v : Int32) (m' : zf_Me), zq m m' → v.toInt = zN74 (zhC m) (zv 2 3 8 m) s.toInt k.toInt → Q v m') : wp_74 s k m Q := by
  have b := zB_v hJ.1
  have p6 : zv 2 3 8 m 5 6 = (m.1 3 5).toInt := rfl
  refine zs_114 (fun g => ⟨fun z => (nomatch z), fun _ => zs_115 (fun g2 => ⟨fun _ => ⟨g, fun g3 => ?_, fun g3 => zC_q (by decide) K ?_⟩, fun z => (nomatch z)⟩) (fun g2 => ⟨fun z => (nomatch z), fun _ => zC_q (by decide) K (if_pos (Or.inr g2))⟩)⟩) (fun g => ⟨fun _ => zC_q (by decide) K (if_pos (Or.inl g)), fun z => (nomatch z)⟩)
  · have c := zhC_c (m := m) (s := s.toInt.toNat) (by omega)
    refine zs_65t (fun g4 => ⟨fun z => (nomatch z), fun _ => ⟨by omega, ?_⟩⟩) (fun g4 => ⟨fun _ => zC_q (by decide) K ?_, fun z => (nomatch z)⟩)
    · have b3 := zB_v3 hJ.1 (k := (m.1 (47 + 2 * s.toInt.toNat) 1).toInt.toNat) (by omega)
      have a2 : zv 2 3 8 m 2 (m.1 (47 + 2 * s.toInt.toNat) 1).toInt.toNat = (m.1 6 (m.1 (47 + 2 * s.toInt.toNat) 1).toInt.toNat).toInt := zN_lt (by omega)
      have a4 : zv 2 3 8 m 4 (m.1 (47 + 2 * s.toInt.toNat) 1).toInt.toNat = (m.1 8 (m.1 (47 + 2 * s.toInt.toNat) 1).toInt.toNat).toInt := zN_lt (by omega)
      have b7 : 0 ≤ (m.1 6 (m.1 (47 + 2 * s.toInt.toNat) 1).toInt.toNat).toInt ∧ (m.1 6 (m.1 (47 + 2 * s.toInt.toNat) 1).toInt.toNat).toInt < 7 := ⟨b3.1, by have := b3.2.1; show _ < (7 : Int); exact Int.lt_of_le_of_lt this (by decide)⟩
      refine zs_117x b7 g2 (fun b2 h2 => ⟨fun e2 => ?_, fun e2 => zC_q (by decide) K ?_⟩)
      · have N : ∀ r, zsay (zv 2 3 8 m) (m.1 (47 + 2 * s.toInt.toNat) 1).toInt.toNat k.toInt = r → r = zN74 (zhC m) (zv 2 3 8 m) s.toInt k.toInt := fun r hr => by
          unfold zN74
          rw [if_neg (by omega), c, if_neg g3, if_neg (by omega), a2, if_neg (fun z => z (h2.mp e2))]
          exact hr.symm
        have z9 : zv 2 3 8 m 5 9 = (m.1 2 6).toInt := rfl
        have z1 : zv 2 3 8 m 5 1 = (m.1 2 5).toInt := rfl
        refine ⟨fun o => ⟨by omega, K _ m zfr_refl (N _ ?_)⟩, fun o => ⟨by omega, zs_118 (fun x hx => K _ m zfr_refl (N _ ?_))⟩, fun o => zs_48 (fun b3 hb => ⟨fun e => K _ m zfr_refl (N _ ?_), fun e => K _ m zfr_refl (N _ ?_)⟩), fun o => ⟨by omega, zs_118 (fun x hx => K _ m zfr_refl (N _ ?_))⟩, fun o => zs_51 hJ.1 (by omega) (by decide) (fun x hx => K _ m zfr_refl (N _ ?_)), fun o => zs_48 (fun b3 hb => ⟨fun e => K _ m zfr_refl (N _ ?_), fun e => K _ m zfr_refl (N _ ?_)⟩), fun o => zs_51 hJ.1 (by omega) (by decide) (fun x hx => K _ m zfr_refl (N _ ?_))⟩
        · unfold zsay
          rw [if_pos (by omega)]
          exact a4
        · unfold zsay
          rw [if_neg (by omega), if_pos (by omega), a2]
          exact hx.symm
        · unfold zsay
          rw [if_neg (by omega), if_neg (by omega), if_pos (by omega), z9, z1, if_pos (Decidable.not_not.mp (zno hb e))]
          rfl
        · unfold zsay
          rw [if_neg (by omega), if_neg (by omega), if_pos (by omega), z9, z1, if_neg (hb.mp e)]
          rfl
        · unfold zsay
          rw [if_neg (by omega), if_pos (by omega), a2]
          exact hx.symm
        · unfold zsay
          rw [if_neg (by omega), if_neg (by omega), if_neg (by omega)]
          exact hx.symm
        · unfold zsay
          rw [if_neg (by omega), if_neg (by omega), if_pos (by omega), z9, z1, if_pos (Decidable.not_not.mp (zno hb e))]
          rfl
        · unfold zsay
          rw [if_neg (by omega), if_neg (by omega), if_pos (by omega), z9, z1, if_neg (hb.mp e)]
          rfl
        · unfold zsay
          rw [if_neg (by omega), if_neg (by omega), if_neg (by omega)]
          exact hx.symm
      · unfold zN74
        rw [if_neg (by omega), c, if_neg g3, if_neg (by omega), a2, if_pos (zno h2 e2)]
        rfl
    · unfold zN74
      rw [if_neg (by omega), c, if_neg g3, if_pos (by rw [p6]; exact g4)]
      rfl
  · have c := zhC_c (m := m) (s := s.toInt.toNat) (by omega)
    unfold zN74
    rw [if_neg (by omega), if_pos (by rw [c]; exact g3)]
    rfl
theorem zA_90 (hJ : JX m) {f : Int32} {Q : Int32 → zf_Me → Prop} (K : ∀ (v : Int32) (m' : zf_Me), zq m m' → v.toInt = zN90 (zv 2 3 8 m) f.toInt → Q v m') : wp_90 f m Q := by
  have b := zB_v hJ.1
  have e1 : (1 : Int32).toInt = 1 := rfl
  have p5 : zv 2 3 8 m 5 5 = (m.1 3 4).toInt := rfl
  have p6 : zv 2 3 8 m 5 6 = (m.1 3 5).toInt := rfl
  refine zs_64t (fun g => ⟨fun z => (nomatch z), fun _ => ⟨fun g2 => ⟨by omega, 8, ?_⟩, fun g2 => zC_q (by decide) K ?_⟩⟩) (fun g => ⟨fun _ => zC_q (by decide) K ?_, fun z => (nomatch z)⟩)
  · have bv := zB_v2 hJ.1 (k := f.toInt.toNat) (by omega)
    have av : zv 2 3 8 m 0 f.toInt.toNat = (m.1 4 f.toInt.toNat).toInt := zN_lt (by omega)
    have lp : ∀ (n : Nat) (v3 v4 : Int32), 1 ≤ v4.toInt → v4.toInt ≤ (m.1 3 5).toInt → (m.1 3 5).toInt - v4.toInt < n → v3.toInt = ((zleast (zv 2 3 8 m) (m.1 4 f.toInt.toNat).toInt v4.toInt.toNat : Nat) : Int) → wq_90_51 f Q n (m.1 4 f.toInt.toNat) v3 v4 m := by
      intro n
      induction n with
      | zero => intro v3 v4 h0 h1 h2; omega
      | succ n ih =>
        intro v3 v4 h0 h1 h2 h3
        have lt := zleast_lt (f := zv 2 3 8 m) (v := (m.1 4 f.toInt.toNat).toInt) v4.toInt.toNat (by omega)
        refine ⟨fun g3 => K _ m zfr_refl ?_, fun g3 => zs_51 hJ.1 (by omega) ⟨bv.1, bv.2.1⟩ (fun x5 h5 => zs_51 hJ.1 (by omega) ⟨bv.1, bv.2.1⟩ (fun x7 h7 => ?_))⟩
        · unfold zN90
          rw [if_neg (by omega), av, p6, h3, show v4.toInt.toNat = (m.1 3 5).toInt.toNat by omega]
        · have s := fb_addI (x := v4) (y := 1) (by omega) (by omega)
          have n4 : (v4 + 1).toInt.toNat = v4.toInt.toNat + 1 := by omega
          have n3 : v3.toInt.toNat = zleast (zv 2 3 8 m) (m.1 4 f.toInt.toNat).toInt v4.toInt.toNat := by omega
          rw [n3] at h7
          refine ⟨fun g4 => ih _ _ (by omega) (by omega) (by omega) ?_, fun g4 => ih _ _ (by omega) (by omega) (by omega) ?_⟩
          · rw [n4]
            unfold zleast
            rw [if_neg (by omega), if_neg (by rw [← h5, ← h7]; omega)]
            exact h3
          · rw [n4]
            unfold zleast
            rw [if_neg (by omega), if_pos (by rw [← h5, ← h7]; omega)]
            omega
    exact lp 8 0 1 (by decide) (by show (1 : Int) ≤ _; omega) (by show _ - (1 : Int) < 8; omega) rfl
  · exact if_pos (Or.inr g2)
  · exact if_pos (Or.inl g)
end
end
section
/-! part 83: what calls answer of the walk as it stands, as functions: the reference -/
section
variable {m : zf_Me}
theorem zR_q {A : Int} {w : Int32} {Q : Int32 → zf_Me → Prop} (hw : -8 < w.toInt ∧ w.toInt ≤ 0) (K : ∀ v m', zgQ m m' → zr m' = zr m → v.toInt = A → Q v m') (e : A = w.toInt) : wp_125 w m Q :=
  zs_125 hw (fun m' f => K _ m' (zg64_q f) (zg64_r f) e.symm)
theorem zR_q10 {A : Int} {w : Int32} {Q : Int32 → zf_Me → Prop} (hw : -8 < w.toInt ∧ w.toInt ≤ 0) (K : ∀ v m', zgQ m m' → zr m' = zr m → v.toInt = A → Q v m') (e : A = w.toInt - 10) : wp_126 w m Q := by
  have e10 : (10 : Int32).toInt = 10 := rfl
  have t := fb_subI (x := w) (y := 10) (by omega) (by omega)
  exact zs_126 hw (fun m' f => K _ m' (zg64_q f) (zg64_r f) (by omega))
theorem zG_144 (hJ : JM m) {f w : Int32} {Q : Int32 → zf_Me → Prop} (K : ∀ (v : Int32) (m' : zf_Me), zgQ m m' → zr m' = zr m → v.toInt = zN77 (zr m) f.toInt w.toInt → Q v m') : wp_144 f w m Q := by
  have b := zB_r hJ.1
  have p : zr m 5 5 = (m.1 63 0).toInt := rfl
  have no : ¬ ((0 ≤ f.toInt ∧ f.toInt < (m.1 63 0).toInt) ∧ (w.toInt = 0 ∨ w.toInt = 1)) → wp_126 (-5) m (fun x m' => Q x m') := fun g => zR_q10 (by decide) K (by
    unfold zN77
    by_cases h : 0 ≤ f.toInt ∧ f.toInt < (m.1 63 0).toInt
    · rw [if_neg (by omega), if_neg (by omega), if_neg (by omega)]
      rfl
    · rw [if_pos (by omega)]
      rfl)
  refine zs_129 (fun g => ⟨fun z => (nomatch z), fun _ => ⟨fun _ => no (by omega), fun _ => ⟨fun _ => ⟨fun _ => ⟨by omega, K _ m zgr_refl rfl ?_⟩, fun _ => ⟨by omega, K _ m zgr_refl rfl ?_⟩⟩, fun _ => no (by omega)⟩⟩⟩) (fun _ => ⟨fun _ => no (by omega), fun z => (nomatch z)⟩)
  · unfold zN77
    rw [if_neg (by omega), if_neg (by omega), if_pos (by omega)]
    exact (zN_lt (by omega)).symm
  · unfold zN77
    rw [if_neg (by omega), if_pos (by omega)]
    exact (zN_lt (by omega)).symm
theorem zG_145 (hJ : JM m) {f w : Int32} {Q : Int32 → zf_Me → Prop} (K : ∀ (v : Int32) (m' : zf_Me), zgQ m m' → zr m' = zr m → v.toInt = zN78 (zr m) f.toInt w.toInt → Q v m') : wp_145 f w m Q := by
  have b := zB_r hJ.1
  have p : zr m 5 6 = (m.1 63 1).toInt := rfl
  have p7 : zr m 5 7 = (m.1 63 2).toInt := rfl
  have no : ¬ ((0 ≤ f.toInt ∧ f.toInt < (m.1 63 1).toInt) ∧ 0 ≤ w.toInt ∧ w.toInt ≤ 3) → wp_125 (-5) m (fun x m' => Q x m') := fun g => zR_q (by decide) K (by
    unfold zN78
    by_cases h : 0 ≤ f.toInt ∧ f.toInt < (m.1 63 1).toInt
    · rw [if_neg (by omega), if_neg (by omega), if_neg (by omega), if_neg (by omega), if_neg (by omega)]
      rfl
    · rw [if_pos (by omega)]
      rfl)
  refine zs_128 (fun g => ⟨fun _ => ⟨fun _ => no (by omega), fun _ => ⟨by omega, K _ m zgr_refl rfl ?_⟩, fun _ => ⟨by omega, K _ m zgr_refl rfl ?_⟩, fun _ => ⟨by omega, K _ m zgr_refl rfl ?_⟩, fun _ => ⟨fun _ => K _ m zgr_refl rfl ?_, fun _ => K _ m zgr_refl rfl ?_⟩⟩, fun z => (nomatch z)⟩) (fun _ => ⟨fun z => (nomatch z), fun _ => no (by omega)⟩)
  · unfold zN78
    rw [if_neg (by omega), if_pos (by omega)]
    exact (zN_lt (by omega)).symm
  · unfold zN78
    rw [if_neg (by omega), if_neg (by omega), if_pos (by omega)]
    exact (zN_lt (by omega)).symm
  · unfold zN78
    rw [if_neg (by omega), if_neg (by omega), if_neg (by omega), if_pos (by omega)]
    exact (zN_lt (by omega)).symm
  · unfold zN78
    rw [if_neg (by omega), if_neg (by omega), if_neg (by omega), if_neg (by omega), if_pos (by omega), if_neg (by omega)]
    rfl
  · unfold zN78
    rw [if_neg (by omega), if_neg (by omega), if_neg (by omega), if_neg (by omega), if_pos (by omega), if_pos (by omega)]
    rfl
theorem zG_171 (hJ : JM m) {p f : Int32} {Q : Int32 → zf_Me → Prop} (K : ∀ (v : Int32) (m' : zf_Me), zgQ m m' → zr m' = zr m → v.toInt = zN84 (zr m) p.toInt f.toInt → Q v m') : wp_171 p f m Q := by
  have b := zB_r hJ.1
  have p5 : zr m 5 5 = (m.1 63 0).toInt := rfl
  have p6 : zr m 5 6 = (m.1 63 1).toInt := rfl
  refine zs_128 (fun g => ⟨fun _ => zs_129 (fun g2 => ⟨fun z => (nomatch z), fun _ => ⟨by omega, zs_165 hJ.1 (by omega) ?_ (fun x hx => K _ m zgr_refl rfl ?_)⟩⟩) (fun g2 => ⟨fun _ => zR_q (by decide) K ?_, fun z => (nomatch z)⟩), fun z => (nomatch z)⟩) (fun g => ⟨fun z => (nomatch z), fun _ => zR_q (by decide) K ?_⟩)
  · have := zB_r2 hJ.1 (k := f.toInt.toNat) (by omega)
    exact ⟨this.1, this.2.1⟩
  · unfold zN84
    rw [if_neg (by omega), if_neg (by omega), hx]
    congr 1
    exact (zN_lt (by omega)).symm
  · unfold zN84
    rw [if_neg (by omega), if_pos (by omega)]
    rfl
  · unfold zN84
    rw [if_pos (by omega)]
    rfl
theorem zG_172 (hJ : JM m) {a : Int32} {Q : Int32 → zf_Me → Prop} (K : ∀ (v : Int32) (m' : zf_Me), zgQ m m' → zr m' = zr m → v.toInt = zN85 (zr m) a.toInt → Q v m') : wp_172 a m Q := by
  refine ⟨fun g => zR_q (by decide) K (if_pos (Or.inl g)), fun g => ⟨fun g2 => zR_q (by decide) K (if_pos (Or.inr (by omega))), fun g2 => zs_167 hJ.1 g2 (fun b hb => ⟨fun e => K _ m zgr_refl rfl ?_, fun e => K _ m zgr_refl rfl ?_⟩)⟩⟩
  · unfold zN85
    rw [if_neg (by omega), if_neg (zno hb e)]
    rfl
  · unfold zN85
    rw [if_neg (by omega), if_pos (hb.mp e)]
    rfl
theorem zG_185 (hJ : JM m) {f : Int32} {Q : Int32 → zf_Me → Prop} (K : ∀ (v : Int32) (m' : zf_Me), zgQ m m' → zr m' = zr m → v.toInt = zN90 (zr m) f.toInt → Q v m') : wp_185 f m Q := by
  have b := zB_r hJ.1
  have e1 : (1 : Int32).toInt = 1 := rfl
  have p5 : zr m 5 5 = (m.1 63 0).toInt := rfl
  have p6 : zr m 5 6 = (m.1 63 1).toInt := rfl
  refine zs_129 (fun g => ⟨fun z => (nomatch z), fun _ => ⟨fun g2 => ⟨8, ?_⟩, fun g2 => zR_q (by decide) K ?_⟩⟩) (fun g => ⟨fun _ => zR_q (by decide) K ?_, fun z => (nomatch z)⟩)
  · have bv := zB_r2 hJ.1 (k := f.toInt.toNat) (by omega)
    have av : zr m 0 f.toInt.toNat = (m.1 65 f.toInt.toNat).toInt := zN_lt (by omega)
    have lp : ∀ (n : Nat) (v3 v4 : Int32), 1 ≤ v4.toInt → v4.toInt ≤ (m.1 63 1).toInt → (m.1 63 1).toInt - v4.toInt < n → v3.toInt = ((zleast (zr m) (m.1 65 f.toInt.toNat).toInt v4.toInt.toNat : Nat) : Int) → wq_185_26 f Q n v3 v4 m := by
      intro n
      induction n with
      | zero => intro v3 v4 h0 h1 h2; omega
      | succ n ih =>
        intro v3 v4 h0 h1 h2 h3
        have lt := zleast_lt (f := zr m) (v := (m.1 65 f.toInt.toNat).toInt) v4.toInt.toNat (by omega)
        refine ⟨fun g3 => K _ m zgr_refl rfl ?_, fun g3 => ⟨by omega, zs_165 hJ.1 (by omega) ⟨bv.1, bv.2.1⟩ (fun x5 h5 => ⟨by omega, zs_165 hJ.1 (by omega) ⟨bv.1, bv.2.1⟩ (fun x7 h7 => ?_)⟩)⟩⟩
        · unfold zN90
          rw [if_neg (by omega), av, p6, h3, show v4.toInt.toNat = (m.1 63 1).toInt.toNat by omega]
        · have s := fb_addI (x := v4) (y := 1) (by omega) (by omega)
          have n4 : (v4 + 1).toInt.toNat = v4.toInt.toNat + 1 := by omega
          have n3 : v3.toInt.toNat = zleast (zr m) (m.1 65 f.toInt.toNat).toInt v4.toInt.toNat := by omega
          rw [n3] at h7
          refine ⟨fun g4 => ih _ _ (by omega) (by omega) (by omega) ?_, fun g4 => ih _ _ (by omega) (by omega) (by omega) ?_⟩
          · rw [n4]
            unfold zleast
            rw [if_neg (by omega), if_neg (by rw [← h5, ← h7]; omega)]
            exact h3
          · rw [n4]
            unfold zleast
            rw [if_neg (by omega), if_pos (by rw [← h5, ← h7]; omega)]
            omega
    exact lp 8 0 1 (by decide) (by show (1 : Int) ≤ _; omega) (by show _ - (1 : Int) < 8; omega) rfl
  · exact if_pos (Or.inr g2)
  · exact if_pos (Or.inl g)
/-- persons shown are there -/
def zsh (h : zH) (pe : Int) : Prop := ∀ j, (h j).1 < 100 → (h j).1 = -1 ∨ (0 ≤ (h j).1 ∧ (h j).1 < pe)
theorem zG_136 (hJ : JM m) (ho : zso m) (hs : zsh (zhR m) (zr m 5 6)) {s k : Int32} {Q : Int32 → zf_Me → Prop} (K : ∀ (v : Int32) (m' : zf_Me), zgQ m m' → zr m' = zr m → v.toInt = zN74 (zhR m) (zr m) s.toInt k.toInt → Q v m') : wp_136 s k m Q := by
  have e0 : (0 : Int32).toInt = 0 := rfl
  have e1 : (1 : Int32).toInt = 1 := rfl
  have bz := zB_r hJ.1
  have p6 : zr m 5 6 = (m.1 63 1).toInt := rfl
  refine zs_127 (fun g => ⟨fun z => (nomatch z), fun _ => ⟨fun g2 => zR_q (by decide) K (if_pos (Or.inr (by omega))), fun g2 => ⟨fun g3 => ⟨g, fun n1 => ⟨g, fun n0 => ?_, fun e => zR_q (by decide) K ?_⟩, fun e => zR_q (by decide) K ?_⟩, fun g3 => zR_q (by decide) K (if_pos (Or.inr (by omega)))⟩⟩⟩) (fun g => ⟨fun _ => zR_q (by decide) K (if_pos (Or.inl g)), fun z => (nomatch z)⟩)
  · have b := hJ.2.1 s.toInt.toNat (by omega)
    have kk := (zhR_k hJ ho (s := s.toInt.toNat) (by omega)).2.1 (by omega)
    have sh := (hs s.toInt.toNat (by omega)).resolve_left (by omega)
    rw [kk.1] at sh
    have hp : 0 ≤ (m.1 73 s.toInt.toNat).toInt ∧ (m.1 73 s.toInt.toNat).toInt < 6 := by omega
    have b3 := zB_r3 hJ.1 (k := (m.1 73 s.toInt.toNat).toInt.toNat) (by omega)
    have a2 : zr m 2 (m.1 73 s.toInt.toNat).toInt.toNat = (m.1 67 (m.1 73 s.toInt.toNat).toInt.toNat).toInt := zN_lt (by omega)
    have a4 : zr m 4 (m.1 73 s.toInt.toNat).toInt.toNat = (m.1 69 (m.1 73 s.toInt.toNat).toInt.toNat).toInt := zN_lt (by omega)
    have N1 : zundB (zr m 2 (m.1 73 s.toInt.toNat).toInt.toNat) k.toInt = true → zN74 (zhR m) (zr m) s.toInt k.toInt = zsay (zr m) (m.1 73 s.toInt.toNat).toInt.toNat k.toInt := fun u => by
      unfold zN74
      rw [if_neg (by omega), kk.1, if_neg (by omega), if_neg (fun z => z sh), if_neg (fun z => z u)]
    have N2 : ¬ zundB (zr m 2 (m.1 73 s.toInt.toNat).toInt.toNat) k.toInt = true → zN74 (zhR m) (zr m) s.toInt k.toInt = -2 := fun u => by
      unfold zN74
      rw [if_neg (by omega), kk.1, if_neg (by omega), if_neg (fun z => z sh), if_pos u]
    have t135 : zundB (zr m 2 (m.1 73 s.toInt.toNat).toInt.toNat) k.toInt = true → wq_136_135 s k (m.1 73 s.toInt.toNat) (m.1 67 (m.1 73 s.toInt.toNat).toInt.toNat) m Q := by
      intro u
      have N : ∀ r, zsay (zr m) (m.1 73 s.toInt.toNat).toInt.toNat k.toInt = r → r = zN74 (zhR m) (zr m) s.toInt k.toInt := fun r hr => hr.symm.trans (N1 u).symm
      have z9 : zr m 5 9 = (m.1 63 6).toInt := rfl
      have z1 : zr m 5 1 = (m.1 63 5).toInt := rfl
      refine ⟨fun o => zs_165 hJ.1 hp (by decide) (fun x hx => K _ m zgr_refl rfl (N _ ?_)), fun o => ⟨hp, K _ m zgr_refl rfl (N _ ?_)⟩, fun o => ⟨fun i => K _ m zgr_refl rfl (N _ ?_), fun i => K _ m zgr_refl rfl (N _ ?_)⟩, fun o => zs_164 (fun b hb => ⟨fun e => K _ m zgr_refl rfl (N _ ?_), fun e => K _ m zgr_refl rfl (N _ ?_)⟩), fun o => ⟨fun i => K _ m zgr_refl rfl (N _ ?_), fun i => K _ m zgr_refl rfl (N _ ?_)⟩, fun o => zs_165 hJ.1 hp (by decide) (fun x hx => K _ m zgr_refl rfl (N _ ?_)), fun o => zs_164 (fun b hb => ⟨fun e => K _ m zgr_refl rfl (N _ ?_), fun e => K _ m zgr_refl rfl (N _ ?_)⟩)⟩
      · unfold zsay
        rw [if_neg (by omega), if_neg (by omega), if_neg (by omega)]
        exact hx.symm
      · unfold zsay
        rw [if_pos o]
        exact a4
      · unfold zsay
        rw [if_neg (by omega), if_pos (by omega), a2, if_neg i]
        rfl
      · unfold zsay
        rw [if_neg (by omega), if_pos (by omega), a2, if_pos i]
        rfl
      · unfold zsay
        rw [if_neg (by omega), if_neg (by omega), if_pos (by omega), z9, z1, if_pos (Decidable.not_not.mp (zno hb e))]
        rfl
      · unfold zsay
        rw [if_neg (by omega), if_neg (by omega), if_pos (by omega), z9, z1, if_neg (hb.mp e)]
        rfl
      · unfold zsay
        rw [if_neg (by omega), if_pos (by omega), a2, if_neg i]
        rfl
      · unfold zsay
        rw [if_neg (by omega), if_pos (by omega), a2, if_pos i]
        rfl
      · unfold zsay
        rw [if_neg (by omega), if_neg (by omega), if_neg (by omega)]
        exact hx.symm
      · unfold zsay
        rw [if_neg (by omega), if_neg (by omega), if_pos (by omega), z9, z1, if_pos (Decidable.not_not.mp (zno hb e))]
        rfl
      · unfold zsay
        rw [if_neg (by omega), if_neg (by omega), if_pos (by omega), z9, z1, if_neg (hb.mp e)]
        rfl
    have U : ∀ P : Prop, (P ↔ (k.toInt = 0 ∨ k.toInt = (m.1 67 (m.1 73 s.toInt.toNat).toInt.toNat).toInt ∨ (k.toInt = 1 ∧ (m.1 67 (m.1 73 s.toInt.toNat).toInt.toNat).toInt = 3) ∨ (k.toInt = 2 ∧ (m.1 67 (m.1 73 s.toInt.toNat).toInt.toNat).toInt = 5) ∨ (k.toInt = 4 ∧ (m.1 67 (m.1 73 s.toInt.toNat).toInt.toNat).toInt = 6))) → (zundB (zr m 2 (m.1 73 s.toInt.toNat).toInt.toNat) k.toInt = true ↔ P) := fun P hP => by
      rw [zund_i, a2]
      exact hP.symm
    have t111a : ((k.toInt = 1 ∧ (m.1 67 (m.1 73 s.toInt.toNat).toInt.toNat).toInt = 3) ∨ (k.toInt = 2 ∧ (m.1 67 (m.1 73 s.toInt.toNat).toInt.toNat).toInt = 5) ∨ (k.toInt = 4 ∧ (m.1 67 (m.1 73 s.toInt.toNat).toInt.toNat).toInt = 6)) → wq_136_106 s k (m.1 73 s.toInt.toNat) (m.1 67 (m.1 73 s.toInt.toNat).toInt.toNat) m Q := fun h => by
      have u := (U _ Iff.rfl).mpr (Or.inr (Or.inr h))
      exact ⟨fun _ => t135 u, fun _ => ⟨fun _ => t135 u, fun _ => ⟨fun _ => t135 u, fun z => absurd z (by decide)⟩⟩⟩
    have t111b : ¬ ((k.toInt = 1 ∧ (m.1 67 (m.1 73 s.toInt.toNat).toInt.toNat).toInt = 3) ∨ (k.toInt = 2 ∧ (m.1 67 (m.1 73 s.toInt.toNat).toInt.toNat).toInt = 5) ∨ (k.toInt = 4 ∧ (m.1 67 (m.1 73 s.toInt.toNat).toInt.toNat).toInt = 6)) → wq_136_110 s k (m.1 73 s.toInt.toNat) (m.1 67 (m.1 73 s.toInt.toNat).toInt.toNat) m Q := fun h => by
      refine ⟨fun e => t135 ((U _ Iff.rfl).mpr (Or.inl e)), fun na => ⟨fun e => t135 ((U _ Iff.rfl).mpr (Or.inr (Or.inl e))), fun nb => ⟨fun z => absurd e0 z, fun _ => zR_q (by decide) K ?_⟩⟩⟩
      exact N2 (fun z => by
        rcases (U _ Iff.rfl).mp z with z | z | z
        · exact na z
        · exact nb z
        · exact h z)
    have t94 : ¬ ((k.toInt = 1 ∧ (m.1 67 (m.1 73 s.toInt.toNat).toInt.toNat).toInt = 3) ∨ (k.toInt = 2 ∧ (m.1 67 (m.1 73 s.toInt.toNat).toInt.toNat).toInt = 5)) → wq_136_94 s k (m.1 73 s.toInt.toNat) (m.1 67 (m.1 73 s.toInt.toNat).toInt.toNat) m Q := fun h => ⟨fun _ => t111b (by omega), fun _ => ⟨fun _ => t111b (by omega), fun _ => t111a (by omega)⟩⟩
    have t83 : ¬ (k.toInt = 1 ∧ (m.1 67 (m.1 73 s.toInt.toNat).toInt.toNat).toInt = 3) → wq_136_83 s k (m.1 73 s.toInt.toNat) (m.1 67 (m.1 73 s.toInt.toNat).toInt.toNat) m Q := fun h => ⟨fun _ => t94 (by omega), fun _ => ⟨fun _ => t111a (by omega), fun _ => t94 (by omega)⟩⟩
    exact ⟨g, hp, fun _ => t83 (by omega), fun _ => ⟨fun _ => t111a (by omega), fun _ => t83 (by omega)⟩⟩
  · have kk := (zhR_k hJ ho (s := s.toInt.toNat) (by omega)).2.2 e
    unfold zN74
    rw [if_neg (by omega), if_pos kk]
    rfl
  · have kk := (zhR_k hJ ho (s := s.toInt.toNat) (by omega)).1 e
    have hl := kk.1
    have b6 := bz.2.1
    unfold zN74
    rw [if_neg (by omega), if_neg (by omega), if_pos (by rw [p6]; omega)]
    rfl
end
end
