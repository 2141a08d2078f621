/-! part 82: what calls answer of the walk as it stands, as functions: the class -/
def zN77 (f : zS) (u w : Int) : Int := if ¬ (0 ≤ u ∧ u < f 5 5) then -15 else if w = 0 then f 0 u.toNat else if w = 1 then f 1 u.toNat else -15
def zN78 (f : zS) (u w : Int) : Int := if ¬ (0 ≤ u ∧ u < f 5 6) then -5 else if w = 0 then f 2 u.toNat else if w = 1 then f 3 u.toNat else if w = 2 then f 4 u.toNat else if w = 3 then (if f 5 7 = u then 1 else 0) else -5
def zN84 (f : zS) (p u : Int) : Int := if ¬ (0 ≤ p ∧ p < f 5 6) then -1 else if ¬ (0 ≤ u ∧ u < f 5 5) then -5 else zload f p.toNat (f 0 u.toNat)
def zN85 (f : zS) (a : Int) : Int := if a < 0 ∨ 9 < a then -6 else if zmay f a then 1 else 0
def zundB (k a : Int) : Bool := decide (a = 0 ∨ a = k ∨ (a = 1 ∧ k = 3) ∨ (a = 2 ∧ k = 5) ∨ (a = 4 ∧ k = 6))
theorem zund_i {k a : Int} : zundB k a = true ↔ (a = 0 ∨ a = k ∨ (a = 1 ∧ k = 3) ∨ (a = 2 ∧ k = 5) ∨ (a = 4 ∧ k = 6)) := decide_eq_true_iff
def zsay (f : zS) (p : Nat) (k : Int) : Int := if k = 0 then f 4 p else if k = 1 ∨ k = 3 then (if f 2 p = 3 then 3 else 2) else if k = 2 ∨ k = 5 then (if f 5 9 < f 5 1 then 0 else 1) else zload f p 0
def zN74 (h : zH) (f : zS) (s k : Int) : Int := if ¬ (0 ≤ s ∧ s < 8) ∨ ¬ (0 ≤ k ∧ k < 7) then -1 else if (h s.toNat).1 = -1 then -3 else if ¬ (0 ≤ (h s.toNat).1 ∧ (h s.toNat).1 < f 5 6) then -2 else if ¬ zundB (f 2 (h s.toNat).1.toNat) k = true then -2 else zsay f (h s.toNat).1.toNat k
def zleast (f : zS) (v : Int) : Nat → Nat
  | 0 => 0
  | n + 1 => if n = 0 then 0 else if zload f n v < zload f (zleast f v n) v then n else zleast f v n
def zN90 (f : zS) (u : Int) : Int := if ¬ (0 ≤ u ∧ u < f 5 5) ∨ f 5 6 = 0 then -5 else ((zleast f (f 0 u.toNat) (f 5 6).toNat : Nat) : Int)
theorem zleast_lt {f : zS} {v : Int} : ∀ n, 0 < n → zleast f v n < n
  | 0, h => absurd h (Nat.lt_irrefl 0)
  | n + 1, _ => by
    unfold zleast
    split
    · omega
    · split
      · omega
      · have := zleast_lt (f := f) (v := v) n (by omega)
        omega
section
variable {m : zf_Me}
theorem zC_q {A : Int} {w : Int32} {Q : Int32 → zf_Me → Prop} (hw : 0 ≤ w.toInt ∧ w.toInt < 8) (K : ∀ v m', zq m m' → v.toInt = A → Q v m') (e : A = -w.toInt) : wp_109 w m Q :=
  zs_109 hw (fun m' f => K _ m' (zfr_mono f (fun a ha => by omega)) (by rw [e]; exact fb_negI (by omega)))
theorem zC_q10 {A : Int} {w : Int32} {Q : Int32 → zf_Me → Prop} (hw : 0 ≤ w.toInt ∧ w.toInt < 8) (K : ∀ v m', zq m m' → v.toInt = A → Q v m') (e : A = -w.toInt - 10) : wp_110 w m Q := by
  have e10 : (10 : Int32).toInt = 10 := rfl
  have n := fb_negI (x := w) (by omega)
  have s := fb_subI (x := -10) (y := w) (by show -2147483648 ≤ (-10 : Int) - _; omega) (by show (-10 : Int) - _ < _; omega)
  have t := fb_subI (x := -w) (y := 10) (by omega) (by omega)
  refine ⟨hw, hw, fun m1 q1 => K _ m1 (by rw [q1]; exact zfr_u zfr_refl (by omega)) ?_⟩
  rw [e]
  first
    | (rw [s]; show (-10 : Int) - _ = _; omega)
    | (rw [t]; omega)
theorem zA_77 (hJ : JX m) {f w : Int32} {Q : Int32 → zf_Me → Prop} (K : ∀ (v : Int32) (m' : zf_Me), zq m m' → v.toInt = zN77 (zv 2 3 8 m) f.toInt w.toInt → Q v m') : wp_77 f w m Q := by
  have b := zB_v hJ.1
  have p : zv 2 3 8 m 5 5 = (m.1 3 4).toInt := rfl
  have no : ¬ ((0 ≤ f.toInt ∧ f.toInt < (m.1 3 4).toInt) ∧ (w.toInt = 0 ∨ w.toInt = 1)) → wp_110 5 m (fun x m' => Q x m') := fun g => zC_q10 (by decide) K (by
    unfold zN77
    by_cases h : 0 ≤ f.toInt ∧ f.toInt < (m.1 3 4).toInt
    · rw [if_neg (by omega), if_neg (by omega), if_neg (by omega)]
      rfl
    · rw [if_pos (by omega)]
      rfl)
  refine zs_64t (fun g => ⟨fun z => (nomatch z), fun _ => ⟨fun _ => no (by omega), fun _ => ⟨fun _ => ⟨fun _ => ⟨by omega, K _ m zfr_refl ?_⟩, fun _ => ⟨by omega, K _ m zfr_refl ?_⟩⟩, fun _ => no (by omega)⟩⟩⟩) (fun _ => ⟨fun _ => no (by omega), fun z => (nomatch z)⟩)
  · unfold zN77
    rw [if_neg (by omega), if_neg (by omega), if_pos (by omega)]
    exact (zN_lt (by omega)).symm
  · unfold zN77
    rw [if_neg (by omega), if_pos (by omega)]
    exact (zN_lt (by omega)).symm
theorem zA_78 (hJ : JX m) {f w : Int32} {Q : Int32 → zf_Me → Prop} (K : ∀ (v : Int32) (m' : zf_Me), zq m m' → v.toInt = zN78 (zv 2 3 8 m) f.toInt w.toInt → Q v m') : wp_78 f w m Q := by
  have b := zB_v hJ.1
  have p : zv 2 3 8 m 5 6 = (m.1 3 5).toInt := rfl
  have p7 : zv 2 3 8 m 5 7 = (m.1 2 2).toInt := rfl
  have no : ¬ ((0 ≤ f.toInt ∧ f.toInt < (m.1 3 5).toInt) ∧ 0 ≤ w.toInt ∧ w.toInt ≤ 3) → wp_109 5 m (fun x m' => Q x m') := fun g => zC_q (by decide) K (by
    unfold zN78
    by_cases h : 0 ≤ f.toInt ∧ f.toInt < (m.1 3 5).toInt
    · rw [if_neg (by omega), if_neg (by omega), if_neg (by omega), if_neg (by omega), if_neg (by omega)]
      rfl
    · rw [if_pos (by omega)]
      rfl)
  refine zs_65t (fun g => ⟨fun _ => ⟨fun _ => no (by omega), fun _ => ⟨by omega, K _ m zfr_refl ?_⟩, fun _ => ⟨by omega, K _ m zfr_refl ?_⟩, fun _ => ⟨by omega, K _ m zfr_refl ?_⟩, fun _ => ⟨fun _ => K _ m zfr_refl ?_, fun _ => K _ m zfr_refl ?_⟩⟩, fun z => (nomatch z)⟩) (fun _ => ⟨fun z => (nomatch z), fun _ => no (by omega)⟩)
  · unfold zN78
    rw [if_neg (by omega), if_pos (by omega)]
    exact (zN_lt (by omega)).symm
  · unfold zN78
    rw [if_neg (by omega), if_neg (by omega), if_pos (by omega)]
    exact (zN_lt (by omega)).symm
  · unfold zN78
    rw [if_neg (by omega), if_neg (by omega), if_neg (by omega), if_pos (by omega)]
    exact (zN_lt (by omega)).symm
  · unfold zN78
    rw [if_neg (by omega), if_neg (by omega), if_neg (by omega), if_neg (by omega), if_pos (by omega), if_neg (by omega)]
    rfl
  · unfold zN78
    rw [if_neg (by omega), if_neg (by omega), if_neg (by omega), if_neg (by omega), if_pos (by omega), if_pos (by omega)]
    rfl
theorem zA_84 (hJ : JX m) {p f : Int32} {Q : Int32 → zf_Me → Prop} (K : ∀ (v : Int32) (m' : zf_Me), zq m m' → v.toInt = zN84 (zv 2 3 8 m) p.toInt f.toInt → Q v m') : wp_84 p f m Q := by
  have b := zB_v hJ.1
  have p5 : zv 2 3 8 m 5 5 = (m.1 3 4).toInt := rfl
  have p6 : zv 2 3 8 m 5 6 = (m.1 3 5).toInt := rfl
  refine zs_65t (fun g => ⟨fun _ => zs_64t (fun g2 => ⟨fun _ => ⟨by omega, zs_51 hJ.1 (by omega) ?_ (fun x hx => K _ m zfr_refl ?_)⟩, fun z => (nomatch z)⟩) (fun g2 => ⟨fun z => (nomatch z), fun _ => zC_q (by decide) K ?_⟩), fun z => (nomatch z)⟩) (fun g => ⟨fun z => (nomatch z), fun _ => zC_q (by decide) K ?_⟩)
  · have := zB_v2 hJ.1 (k := f.toInt.toNat) (by omega)
    exact ⟨this.1, this.2.1⟩
  · unfold zN84
    rw [if_neg (by omega), if_neg (by omega), hx]
    congr 1
    exact (zN_lt (by omega)).symm
  · unfold zN84
    rw [if_neg (by omega), if_pos (by omega)]
    rfl
  · unfold zN84
    rw [if_pos (by omega)]
    rfl
theorem zA_85 (hJ : JX m) {a : Int32} {Q : Int32 → zf_Me → Prop} (K : ∀ (v : Int32) (m' : zf_Me), zq m m' → v.toInt = zN85 (zv 2 3 8 m) a.toInt → Q v m') : wp_85 a m Q := by
  refine ⟨fun g => zC_q (by decide) K (if_pos (Or.inl g)), fun g => ⟨fun g2 => zs_52 hJ.1 (fun b hb => ⟨fun e => K _ m zfr_refl ?_, fun e => K _ m zfr_refl ?_⟩), fun g2 => zC_q (by decide) K (if_pos (Or.inr (by omega)))⟩⟩
  · unfold zN85
    rw [if_neg (by omega), if_neg (zno hb e)]
    rfl
  · unfold zN85
    rw [if_neg (by omega), if_pos (hb.mp e)]
    rfl
theorem zs_117x {k a : Int32} (hk : 0 ≤ k.toInt ∧ k.toInt < 7) (ha : 0 ≤ a.toInt ∧ a.toInt < 7) {Q : Bool → zf_Me → Prop} (hq : ∀ b, (b = true ↔ zundB k.toInt a.toInt = true) → Q b m) : wp_117 k a m Q := by
  have e1 : (1 : Int32).toInt = 1 := rfl
  have em1 : (-1 : Int32).toInt = -1 := rfl
  have ab : ∀ n : Nat, n < 7 → ((zx_sa.getD 0 []).getD n 0).toInt = (if n = 0 then -1 else if n = 3 then 1 else if n = 5 then 2 else if n = 6 then 4 else 0 : Int) := by decide
  have lp : ∀ (n : Nat) (v2 v3 : Int32), 0 ≤ v3.toInt → v3.toInt ≤ 7 → 7 - v3.toInt < n → -1 ≤ v2.toInt → v2.toInt < 7 → (v2.toInt = -1 → ¬ zundB k.toInt a.toInt = true) → (0 ≤ v2.toInt → (zundB k.toInt a.toInt = true ↔ zundB v2.toInt a.toInt = true)) → (v3.toInt = 0 → 0 ≤ v2.toInt) → (v3.toInt = 1 → v2.toInt ≤ 4 ∧ ¬ v2.toInt = 3) → (v3.toInt = 2 → v2.toInt ≤ 0) → (3 ≤ v3.toInt → v2.toInt = -1) → wq_117_4 k a Q n v2 v3 m := by
    intro n
    induction n with
    | zero => intro v2 v3 h0 h1 h2; omega
    | succ n ih =>
      intro v2 v3 h0 h1 h2 c0 c1 c2 c3 d0 d1 d2 d3
      refine ⟨fun g => hq _ (zb_f (c2 (d3 (by omega)))), fun g => zs_115 (fun g2 => ⟨fun z => (nomatch z), fun _ => ⟨fun ne => ⟨g2, ?_⟩, fun eq => hq _ (zb_t ((c3 g2.1).mpr (zund_i.mpr (Or.inr (Or.inl eq.symm)))))⟩⟩) (fun g2 => ⟨fun _ => hq _ (zb_f (c2 (by omega))), fun z => (nomatch z)⟩)⟩
      have s := fb_addI (x := v3) (y := 1) (by omega) (by omega)
      have e := ab v2.toInt.toNat (by omega)
      have u := c3 g2.1
      have st : ((zx_sa.getD 0 []).getD v2.toInt.toNat 0).toInt = (if v2.toInt = 0 then -1 else if v2.toInt = 3 then 1 else if v2.toInt = 5 then 2 else if v2.toInt = 6 then 4 else 0 : Int) := by
        rw [e]
        have q : ∀ j : Nat, (v2.toInt.toNat = j ↔ v2.toInt = (j : Int)) := fun j => by omega
        simp only [q 0, q 3, q 5, q 6]
        rfl
      have cs : ((zx_sa.getD 0 []).getD v2.toInt.toNat 0).toInt = -1 ∧ v2.toInt = 0 ∨ ((zx_sa.getD 0 []).getD v2.toInt.toNat 0).toInt = 1 ∧ v2.toInt = 3 ∨ ((zx_sa.getD 0 []).getD v2.toInt.toNat 0).toInt = 2 ∧ v2.toInt = 5 ∨ ((zx_sa.getD 0 []).getD v2.toInt.toNat 0).toInt = 4 ∧ v2.toInt = 6 ∨ ((zx_sa.getD 0 []).getD v2.toInt.toNat 0).toInt = 0 ∧ (v2.toInt = 1 ∨ v2.toInt = 2 ∨ v2.toInt = 4) := by
        rw [st]
        repeat' split
        all_goals omega
      refine ih _ _ (by omega) (by omega) (by omega) (by omega) (by omega) (fun z => ?_) (fun z => ?_) (by omega) (by omega) (by omega) (by omega)
      · rw [u, zund_i]
        clear c2 c3 u
        omega
      · rw [u, zund_i, zund_i]
        clear c2 c3 u
        omega
  exact ⟨9, lp 9 k 0 (by decide) (by decide) (by decide) (by omega) hk.2 (fun z => by omega) (fun _ => Iff.rfl) (fun _ => hk.1) (fun z => absurd z (by decide)) (fun z => absurd z (by decide)) (fun z => absurd z (by decide))⟩
theorem zA_74 (hJ : JX m) {s k : Int32} {Q : Int32 → zf_Me → Prop} (K : ∀ (v : Int32) (m' : zf_Me), zq m m' → v.toInt = zN74 (zhC m) (zv 2 3 8 m) s.toInt k.toInt → Q v m') : wp_74 s k m Q := by
  have b := zB_v hJ.1
  have p6 : zv 2 3 8 m 5 6 = (m.1 3 5).toInt := rfl
  refine zs_114 (fun g => ⟨fun z => (nomatch z), fun _ => zs_115 (fun g2 => ⟨fun _ => ⟨g, fun g3 => ?_, fun g3 => zC_q (by decide) K ?_⟩, fun z => (nomatch z)⟩) (fun g2 => ⟨fun z => (nomatch z), fun _ => zC_q (by decide) K (if_pos (Or.inr g2))⟩)⟩) (fun g => ⟨fun _ => zC_q (by decide) K (if_pos (Or.inl g)), fun z => (nomatch z)⟩)
  · have c := zhC_c (m := m) (s := s.toInt.toNat) (by omega)
    refine zs_65t (fun g4 => ⟨fun z => (nomatch z), fun _ => ⟨by omega, ?_⟩⟩) (fun g4 => ⟨fun _ => zC_q (by decide) K ?_, fun z => (nomatch z)⟩)
    · have b3 := zB_v3 hJ.1 (k := (m.1 (47 + 2 * s.toInt.toNat) 1).toInt.toNat) (by omega)
      have a2 : zv 2 3 8 m 2 (m.1 (47 + 2 * s.toInt.toNat) 1).toInt.toNat = (m.1 6 (m.1 (47 + 2 * s.toInt.toNat) 1).toInt.toNat).toInt := zN_lt (by omega)
      have a4 : zv 2 3 8 m 4 (m.1 (47 + 2 * s.toInt.toNat) 1).toInt.toNat = (m.1 8 (m.1 (47 + 2 * s.toInt.toNat) 1).toInt.toNat).toInt := zN_lt (by omega)
      have b7 : 0 ≤ (m.1 6 (m.1 (47 + 2 * s.toInt.toNat) 1).toInt.toNat).toInt ∧ (m.1 6 (m.1 (47 + 2 * s.toInt.toNat) 1).toInt.toNat).toInt < 7 := ⟨b3.1, by have := b3.2.1; show _ < (7 : Int); exact Int.lt_of_le_of_lt this (by decide)⟩
      refine zs_117x b7 g2 (fun b2 h2 => ⟨fun e2 => ?_, fun e2 => zC_q (by decide) K ?_⟩)
      · have N : ∀ r, zsay (zv 2 3 8 m) (m.1 (47 + 2 * s.toInt.toNat) 1).toInt.toNat k.toInt = r → r = zN74 (zhC m) (zv 2 3 8 m) s.toInt k.toInt := fun r hr => by
          unfold zN74
          rw [if_neg (by omega), c, if_neg g3, if_neg (by omega), a2, if_neg (fun z => z (h2.mp e2))]
          exact hr.symm
        have z9 : zv 2 3 8 m 5 9 = (m.1 2 6).toInt := rfl
        have z1 : zv 2 3 8 m 5 1 = (m.1 2 5).toInt := rfl
        refine ⟨fun o => ⟨by omega, K _ m zfr_refl (N _ ?_)⟩, fun o => ⟨by omega, zs_118 (fun x hx => K _ m zfr_refl (N _ ?_))⟩, fun o => zs_48 (fun b3 hb => ⟨fun e => K _ m zfr_refl (N _ ?_), fun e => K _ m zfr_refl (N _ ?_)⟩), fun o => ⟨by omega, zs_118 (fun x hx => K _ m zfr_refl (N _ ?_))⟩, fun o => zs_51 hJ.1 (by omega) (by decide) (fun x hx => K _ m zfr_refl (N _ ?_)), fun o => zs_48 (fun b3 hb => ⟨fun e => K _ m zfr_refl (N _ ?_), fun e => K _ m zfr_refl (N _ ?_)⟩), fun o => zs_51 hJ.1 (by omega) (by decide) (fun x hx => K _ m zfr_refl (N _ ?_))⟩
        · unfold zsay
          rw [if_pos (by omega)]
          exact a4
        · unfold zsay
          rw [if_neg (by omega), if_pos (by omega), a2]
          exact hx.symm
        · unfold zsay
          rw [if_neg (by omega), if_neg (by omega), if_pos (by omega), z9, z1, if_pos (Decidable.not_not.mp (zno hb e))]
          rfl
        · unfold zsay
          rw [if_neg (by omega), if_neg (by omega), if_pos (by omega), z9, z1, if_neg (hb.mp e)]
          rfl
        · unfold zsay
          rw [if_neg (by omega), if_pos (by omega), a2]
          exact hx.symm
        · unfold zsay
          rw [if_neg (by omega), if_neg (by omega), if_neg (by omega)]
          exact hx.symm
        · unfold zsay
          rw [if_neg (by omega), if_neg (by omega), if_pos (by omega), z9, z1, if_pos (Decidable.not_not.mp (zno hb e))]
          rfl
        · unfold zsay
          rw [if_neg (by omega), if_neg (by omega), if_pos (by omega), z9, z1, if_neg (hb.mp e)]
          rfl
        · unfold zsay
          rw [if_neg (by omega), if_neg (by omega), if_neg (by omega)]
          exact hx.symm
      · unfold zN74
        rw [if_neg (by omega), c, if_neg g3, if_neg (by omega), a2, if_pos (zno h2 e2)]
        rfl
    · unfold zN74
      rw [if_neg (by omega), c, if_neg g3, if_pos (by rw [p6]; exact g4)]
      rfl
  · have c := zhC_c (m := m) (s := s.toInt.toNat) (by omega)
    unfold zN74
    rw [if_neg (by omega), if_pos (by rw [c]; exact g3)]
    rfl
theorem zA_90 (hJ : JX m) {f : Int32} {Q : Int32 → zf_Me → Prop} (K : ∀ (v : Int32) (m' : zf_Me), zq m m' → v.toInt = zN90 (zv 2 3 8 m) f.toInt → Q v m') : wp_90 f m Q := by
  have b := zB_v hJ.1
  have e1 : (1 : Int32).toInt = 1 := rfl
  have p5 : zv 2 3 8 m 5 5 = (m.1 3 4).toInt := rfl
  have p6 : zv 2 3 8 m 5 6 = (m.1 3 5).toInt := rfl
  refine zs_64t (fun g => ⟨fun z => (nomatch z), fun _ => ⟨fun g2 => ⟨by omega, 8, ?_⟩, fun g2 => zC_q (by decide) K ?_⟩⟩) (fun g => ⟨fun _ => zC_q (by decide) K ?_, fun z => (nomatch z)⟩)
  · have bv := zB_v2 hJ.1 (k := f.toInt.toNat) (by omega)
    have av : zv 2 3 8 m 0 f.toInt.toNat = (m.1 4 f.toInt.toNat).toInt := zN_lt (by omega)
    have lp : ∀ (n : Nat) (v3 v4 : Int32), 1 ≤ v4.toInt → v4.toInt ≤ (m.1 3 5).toInt → (m.1 3 5).toInt - v4.toInt < n → v3.toInt = ((zleast (zv 2 3 8 m) (m.1 4 f.toInt.toNat).toInt v4.toInt.toNat : Nat) : Int) → wq_90_51 f Q n (m.1 4 f.toInt.toNat) v3 v4 m := by
      intro n
      induction n with
      | zero => intro v3 v4 h0 h1 h2; omega
      | succ n ih =>
        intro v3 v4 h0 h1 h2 h3
        have lt := zleast_lt (f := zv 2 3 8 m) (v := (m.1 4 f.toInt.toNat).toInt) v4.toInt.toNat (by omega)
        refine ⟨fun g3 => K _ m zfr_refl ?_, fun g3 => zs_51 hJ.1 (by omega) ⟨bv.1, bv.2.1⟩ (fun x5 h5 => zs_51 hJ.1 (by omega) ⟨bv.1, bv.2.1⟩ (fun x7 h7 => ?_))⟩
        · unfold zN90
          rw [if_neg (by omega), av, p6, h3, show v4.toInt.toNat = (m.1 3 5).toInt.toNat by omega]
        · have s := fb_addI (x := v4) (y := 1) (by omega) (by omega)
          have n4 : (v4 + 1).toInt.toNat = v4.toInt.toNat + 1 := by omega
          have n3 : v3.toInt.toNat = zleast (zv 2 3 8 m) (m.1 4 f.toInt.toNat).toInt v4.toInt.toNat := by omega
          rw [n3] at h7
          refine ⟨fun g4 => ih _ _ (by omega) (by omega) (by omega) ?_, fun g4 => ih _ _ (by omega) (by omega) (by omega) ?_⟩
          · rw [n4]
            unfold zleast
            rw [if_neg (by omega), if_neg (by rw [← h5, ← h7]; omega)]
            exact h3
          · rw [n4]
            unfold zleast
            rw [if_neg (by omega), if_pos (by rw [← h5, ← h7]; omega)]
            omega
    exact lp 8 0 1 (by decide) (by show (1 : Int) ≤ _; omega) (by show _ - (1 : Int) < 8; omega) rfl
  · exact if_pos (Or.inr g2)
  · exact if_pos (Or.inl g)
end
