/-! part 83: what calls answer of the walk as it stands, as functions: the reference -/
section
variable {m : zf_Me}
theorem zR_q {A : Int} {w : Int32} {Q : Int32 → zf_Me → Prop} (hw : -8 < w.toInt ∧ w.toInt ≤ 0) (K : ∀ v m', zgQ m m' → zr m' = zr m → v.toInt = A → Q v m') (e : A = w.toInt) : wp_125 w m Q :=
  zs_125 hw (fun m' f => K _ m' (zg64_q f) (zg64_r f) e.symm)
theorem zR_q10 {A : Int} {w : Int32} {Q : Int32 → zf_Me → Prop} (hw : -8 < w.toInt ∧ w.toInt ≤ 0) (K : ∀ v m', zgQ m m' → zr m' = zr m → v.toInt = A → Q v m') (e : A = w.toInt - 10) : wp_126 w m Q := by
  have e10 : (10 : Int32).toInt = 10 := rfl
  have t := fb_subI (x := w) (y := 10) (by omega) (by omega)
  exact zs_126 hw (fun m' f => K _ m' (zg64_q f) (zg64_r f) (by omega))
theorem zG_144 (hJ : JM m) {f w : Int32} {Q : Int32 → zf_Me → Prop} (K : ∀ (v : Int32) (m' : zf_Me), zgQ m m' → zr m' = zr m → v.toInt = zN77 (zr m) f.toInt w.toInt → Q v m') : wp_144 f w m Q := by
  have b := zB_r hJ.1
  have p : zr m 5 5 = (m.1 63 0).toInt := rfl
  have no : ¬ ((0 ≤ f.toInt ∧ f.toInt < (m.1 63 0).toInt) ∧ (w.toInt = 0 ∨ w.toInt = 1)) → wp_126 (-5) m (fun x m' => Q x m') := fun g => zR_q10 (by decide) K (by
    unfold zN77
    by_cases h : 0 ≤ f.toInt ∧ f.toInt < (m.1 63 0).toInt
    · rw [if_neg (by omega), if_neg (by omega), if_neg (by omega)]
      rfl
    · rw [if_pos (by omega)]
      rfl)
  refine zs_129 (fun g => ⟨fun z => (nomatch z), fun _ => ⟨fun _ => no (by omega), fun _ => ⟨fun _ => ⟨fun _ => ⟨by omega, K _ m zgr_refl rfl ?_⟩, fun _ => ⟨by omega, K _ m zgr_refl rfl ?_⟩⟩, fun _ => no (by omega)⟩⟩⟩) (fun _ => ⟨fun _ => no (by omega), fun z => (nomatch z)⟩)
  · unfold zN77
    rw [if_neg (by omega), if_neg (by omega), if_pos (by omega)]
    exact (zN_lt (by omega)).symm
  · unfold zN77
    rw [if_neg (by omega), if_pos (by omega)]
    exact (zN_lt (by omega)).symm
theorem zG_145 (hJ : JM m) {f w : Int32} {Q : Int32 → zf_Me → Prop} (K : ∀ (v : Int32) (m' : zf_Me), zgQ m m' → zr m' = zr m → v.toInt = zN78 (zr m) f.toInt w.toInt → Q v m') : wp_145 f w m Q := by
  have b := zB_r hJ.1
  have p : zr m 5 6 = (m.1 63 1).toInt := rfl
  have p7 : zr m 5 7 = (m.1 63 2).toInt := rfl
  have no : ¬ ((0 ≤ f.toInt ∧ f.toInt < (m.1 63 1).toInt) ∧ 0 ≤ w.toInt ∧ w.toInt ≤ 3) → wp_125 (-5) m (fun x m' => Q x m') := fun g => zR_q (by decide) K (by
    unfold zN78
    by_cases h : 0 ≤ f.toInt ∧ f.toInt < (m.1 63 1).toInt
    · rw [if_neg (by omega), if_neg (by omega), if_neg (by omega), if_neg (by omega), if_neg (by omega)]
      rfl
    · rw [if_pos (by omega)]
      rfl)
  refine zs_128 (fun g => ⟨fun _ => ⟨fun _ => no (by omega), fun _ => ⟨by omega, K _ m zgr_refl rfl ?_⟩, fun _ => ⟨by omega, K _ m zgr_refl rfl ?_⟩, fun _ => ⟨by omega, K _ m zgr_refl rfl ?_⟩, fun _ => ⟨fun _ => K _ m zgr_refl rfl ?_, fun _ => K _ m zgr_refl rfl ?_⟩⟩, fun z => (nomatch z)⟩) (fun _ => ⟨fun z => (nomatch z), fun _ => no (by omega)⟩)
  · unfold zN78
    rw [if_neg (by omega), if_pos (by omega)]
    exact (zN_lt (by omega)).symm
  · unfold zN78
    rw [if_neg (by omega), if_neg (by omega), if_pos (by omega)]
    exact (zN_lt (by omega)).symm
  · unfold zN78
    rw [if_neg (by omega), if_neg (by omega), if_neg (by omega), if_pos (by omega)]
    exact (zN_lt (by omega)).symm
  · unfold zN78
    rw [if_neg (by omega), if_neg (by omega), if_neg (by omega), if_neg (by omega), if_pos (by omega), if_neg (by omega)]
    rfl
  · unfold zN78
    rw [if_neg (by omega), if_neg (by omega), if_neg (by omega), if_neg (by omega), if_pos (by omega), if_pos (by omega)]
    rfl
theorem zG_171 (hJ : JM m) {p f : Int32} {Q : Int32 → zf_Me → Prop} (K : ∀ (v : Int32) (m' : zf_Me), zgQ m m' → zr m' = zr m → v.toInt = zN84 (zr m) p.toInt f.toInt → Q v m') : wp_171 p f m Q := by
  have b := zB_r hJ.1
  have p5 : zr m 5 5 = (m.1 63 0).toInt := rfl
  have p6 : zr m 5 6 = (m.1 63 1).toInt := rfl
  refine zs_128 (fun g => ⟨fun _ => zs_129 (fun g2 => ⟨fun z => (nomatch z), fun _ => ⟨by omega, zs_165 hJ.1 (by omega) ?_ (fun x hx => K _ m zgr_refl rfl ?_)⟩⟩) (fun g2 => ⟨fun _ => zR_q (by decide) K ?_, fun z => (nomatch z)⟩), fun z => (nomatch z)⟩) (fun g => ⟨fun z => (nomatch z), fun _ => zR_q (by decide) K ?_⟩)
  · have := zB_r2 hJ.1 (k := f.toInt.toNat) (by omega)
    exact ⟨this.1, this.2.1⟩
  · unfold zN84
    rw [if_neg (by omega), if_neg (by omega), hx]
    congr 1
    exact (zN_lt (by omega)).symm
  · unfold zN84
    rw [if_neg (by omega), if_pos (by omega)]
    rfl
  · unfold zN84
    rw [if_pos (by omega)]
    rfl
theorem zG_172 (hJ : JM m) {a : Int32} {Q : Int32 → zf_Me → Prop} (K : ∀ (v : Int32) (m' : zf_Me), zgQ m m' → zr m' = zr m → v.toInt = zN85 (zr m) a.toInt → Q v m') : wp_172 a m Q := by
  refine ⟨fun g => zR_q (by decide) K (if_pos (Or.inl g)), fun g => ⟨fun g2 => zR_q (by decide) K (if_pos (Or.inr (by omega))), fun g2 => zs_167 hJ.1 g2 (fun b hb => ⟨fun e => K _ m zgr_refl rfl ?_, fun e => K _ m zgr_refl rfl ?_⟩)⟩⟩
  · unfold zN85
    rw [if_neg (by omega), if_neg (zno hb e)]
    rfl
  · unfold zN85
    rw [if_neg (by omega), if_pos (hb.mp e)]
    rfl
theorem zG_185 (hJ : JM m) {f : Int32} {Q : Int32 → zf_Me → Prop} (K : ∀ (v : Int32) (m' : zf_Me), zgQ m m' → zr m' = zr m → v.toInt = zN90 (zr m) f.toInt → Q v m') : wp_185 f m Q := by
  have b := zB_r hJ.1
  have e1 : (1 : Int32).toInt = 1 := rfl
  have p5 : zr m 5 5 = (m.1 63 0).toInt := rfl
  have p6 : zr m 5 6 = (m.1 63 1).toInt := rfl
  refine zs_129 (fun g => ⟨fun z => (nomatch z), fun _ => ⟨fun g2 => ⟨8, ?_⟩, fun g2 => zR_q (by decide) K ?_⟩⟩) (fun g => ⟨fun _ => zR_q (by decide) K ?_, fun z => (nomatch z)⟩)
  · have bv := zB_r2 hJ.1 (k := f.toInt.toNat) (by omega)
    have av : zr m 0 f.toInt.toNat = (m.1 65 f.toInt.toNat).toInt := zN_lt (by omega)
    have lp : ∀ (n : Nat) (v3 v4 : Int32), 1 ≤ v4.toInt → v4.toInt ≤ (m.1 63 1).toInt → (m.1 63 1).toInt - v4.toInt < n → v3.toInt = ((zleast (zr m) (m.1 65 f.toInt.toNat).toInt v4.toInt.toNat : Nat) : Int) → wq_185_26 f Q n v3 v4 m := by
      intro n
      induction n with
      | zero => intro v3 v4 h0 h1 h2; omega
      | succ n ih =>
        intro v3 v4 h0 h1 h2 h3
        have lt := zleast_lt (f := zr m) (v := (m.1 65 f.toInt.toNat).toInt) v4.toInt.toNat (by omega)
        refine ⟨fun g3 => K _ m zgr_refl rfl ?_, fun g3 => ⟨by omega, zs_165 hJ.1 (by omega) ⟨bv.1, bv.2.1⟩ (fun x5 h5 => ⟨by omega, zs_165 hJ.1 (by omega) ⟨bv.1, bv.2.1⟩ (fun x7 h7 => ?_)⟩)⟩⟩
        · unfold zN90
          rw [if_neg (by omega), av, p6, h3, show v4.toInt.toNat = (m.1 63 1).toInt.toNat by omega]
        · have s := fb_addI (x := v4) (y := 1) (by omega) (by omega)
          have n4 : (v4 + 1).toInt.toNat = v4.toInt.toNat + 1 := by omega
          have n3 : v3.toInt.toNat = zleast (zr m) (m.1 65 f.toInt.toNat).toInt v4.toInt.toNat := by omega
          rw [n3] at h7
          refine ⟨fun g4 => ih _ _ (by omega) (by omega) (by omega) ?_, fun g4 => ih _ _ (by omega) (by omega) (by omega) ?_⟩
          · rw [n4]
            unfold zleast
            rw [if_neg (by omega), if_neg (by rw [← h5, ← h7]; omega)]
            exact h3
          · rw [n4]
            unfold zleast
            rw [if_neg (by omega), if_pos (by rw [← h5, ← h7]; omega)]
            omega
    exact lp 8 0 1 (by decide) (by show (1 : Int) ≤ _; omega) (by show _ - (1 : Int) < 8; omega) rfl
  · exact if_pos (Or.inr g2)
  · exact if_pos (Or.inl g)
/-- persons shown are there -/
def zsh (h : zH) (pe : Int) : Prop := ∀ j, (h j).1 < 100 → (h j).1 = -1 ∨ (0 ≤ (h j).1 ∧ (h j).1 < pe)
theorem zG_136 (hJ : JM m) (ho : zso m) (hs : zsh (zhR m) (zr m 5 6)) {s k : Int32} {Q : Int32 → zf_Me → Prop} (K : ∀ (v : Int32) (m' : zf_Me), zgQ m m' → zr m' = zr m → v.toInt = zN74 (zhR m) (zr m) s.toInt k.toInt → Q v m') : wp_136 s k m Q := by
  have e0 : (0 : Int32).toInt = 0 := rfl
  have e1 : (1 : Int32).toInt = 1 := rfl
  have bz := zB_r hJ.1
  have p6 : zr m 5 6 = (m.1 63 1).toInt := rfl
  refine zs_127 (fun g => ⟨fun z => (nomatch z), fun _ => ⟨fun g2 => zR_q (by decide) K (if_pos (Or.inr (by omega))), fun g2 => ⟨fun g3 => ⟨g, fun n1 => ⟨g, fun n0 => ?_, fun e => zR_q (by decide) K ?_⟩, fun e => zR_q (by decide) K ?_⟩, fun g3 => zR_q (by decide) K (if_pos (Or.inr (by omega)))⟩⟩⟩) (fun g => ⟨fun _ => zR_q (by decide) K (if_pos (Or.inl g)), fun z => (nomatch z)⟩)
  · have b := hJ.2.1 s.toInt.toNat (by omega)
    have kk := (zhR_k hJ ho (s := s.toInt.toNat) (by omega)).2.1 (by omega)
    have sh := (hs s.toInt.toNat (by omega)).resolve_left (by omega)
    rw [kk.1] at sh
    have hp : 0 ≤ (m.1 73 s.toInt.toNat).toInt ∧ (m.1 73 s.toInt.toNat).toInt < 6 := by omega
    have b3 := zB_r3 hJ.1 (k := (m.1 73 s.toInt.toNat).toInt.toNat) (by omega)
    have a2 : zr m 2 (m.1 73 s.toInt.toNat).toInt.toNat = (m.1 67 (m.1 73 s.toInt.toNat).toInt.toNat).toInt := zN_lt (by omega)
    have a4 : zr m 4 (m.1 73 s.toInt.toNat).toInt.toNat = (m.1 69 (m.1 73 s.toInt.toNat).toInt.toNat).toInt := zN_lt (by omega)
    have N1 : zundB (zr m 2 (m.1 73 s.toInt.toNat).toInt.toNat) k.toInt = true → zN74 (zhR m) (zr m) s.toInt k.toInt = zsay (zr m) (m.1 73 s.toInt.toNat).toInt.toNat k.toInt := fun u => by
      unfold zN74
      rw [if_neg (by omega), kk.1, if_neg (by omega), if_neg (fun z => z sh), if_neg (fun z => z u)]
    have N2 : ¬ zundB (zr m 2 (m.1 73 s.toInt.toNat).toInt.toNat) k.toInt = true → zN74 (zhR m) (zr m) s.toInt k.toInt = -2 := fun u => by
      unfold zN74
      rw [if_neg (by omega), kk.1, if_neg (by omega), if_neg (fun z => z sh), if_pos u]
    have t135 : zundB (zr m 2 (m.1 73 s.toInt.toNat).toInt.toNat) k.toInt = true → wq_136_135 s k (m.1 73 s.toInt.toNat) (m.1 67 (m.1 73 s.toInt.toNat).toInt.toNat) m Q := by
      intro u
      have N : ∀ r, zsay (zr m) (m.1 73 s.toInt.toNat).toInt.toNat k.toInt = r → r = zN74 (zhR m) (zr m) s.toInt k.toInt := fun r hr => hr.symm.trans (N1 u).symm
      have z9 : zr m 5 9 = (m.1 63 6).toInt := rfl
      have z1 : zr m 5 1 = (m.1 63 5).toInt := rfl
      refine ⟨fun o => zs_165 hJ.1 hp (by decide) (fun x hx => K _ m zgr_refl rfl (N _ ?_)), fun o => ⟨hp, K _ m zgr_refl rfl (N _ ?_)⟩, fun o => ⟨fun i => K _ m zgr_refl rfl (N _ ?_), fun i => K _ m zgr_refl rfl (N _ ?_)⟩, fun o => zs_164 (fun b hb => ⟨fun e => K _ m zgr_refl rfl (N _ ?_), fun e => K _ m zgr_refl rfl (N _ ?_)⟩), fun o => ⟨fun i => K _ m zgr_refl rfl (N _ ?_), fun i => K _ m zgr_refl rfl (N _ ?_)⟩, fun o => zs_165 hJ.1 hp (by decide) (fun x hx => K _ m zgr_refl rfl (N _ ?_)), fun o => zs_164 (fun b hb => ⟨fun e => K _ m zgr_refl rfl (N _ ?_), fun e => K _ m zgr_refl rfl (N _ ?_)⟩)⟩
      · unfold zsay
        rw [if_neg (by omega), if_neg (by omega), if_neg (by omega)]
        exact hx.symm
      · unfold zsay
        rw [if_pos o]
        exact a4
      · unfold zsay
        rw [if_neg (by omega), if_pos (by omega), a2, if_neg i]
        rfl
      · unfold zsay
        rw [if_neg (by omega), if_pos (by omega), a2, if_pos i]
        rfl
      · unfold zsay
        rw [if_neg (by omega), if_neg (by omega), if_pos (by omega), z9, z1, if_pos (Decidable.not_not.mp (zno hb e))]
        rfl
      · unfold zsay
        rw [if_neg (by omega), if_neg (by omega), if_pos (by omega), z9, z1, if_neg (hb.mp e)]
        rfl
      · unfold zsay
        rw [if_neg (by omega), if_pos (by omega), a2, if_neg i]
        rfl
      · unfold zsay
        rw [if_neg (by omega), if_pos (by omega), a2, if_pos i]
        rfl
      · unfold zsay
        rw [if_neg (by omega), if_neg (by omega), if_neg (by omega)]
        exact hx.symm
      · unfold zsay
        rw [if_neg (by omega), if_neg (by omega), if_pos (by omega), z9, z1, if_pos (Decidable.not_not.mp (zno hb e))]
        rfl
      · unfold zsay
        rw [if_neg (by omega), if_neg (by omega), if_pos (by omega), z9, z1, if_neg (hb.mp e)]
        rfl
    have U : ∀ P : Prop, (P ↔ (k.toInt = 0 ∨ k.toInt = (m.1 67 (m.1 73 s.toInt.toNat).toInt.toNat).toInt ∨ (k.toInt = 1 ∧ (m.1 67 (m.1 73 s.toInt.toNat).toInt.toNat).toInt = 3) ∨ (k.toInt = 2 ∧ (m.1 67 (m.1 73 s.toInt.toNat).toInt.toNat).toInt = 5) ∨ (k.toInt = 4 ∧ (m.1 67 (m.1 73 s.toInt.toNat).toInt.toNat).toInt = 6))) → (zundB (zr m 2 (m.1 73 s.toInt.toNat).toInt.toNat) k.toInt = true ↔ P) := fun P hP => by
      rw [zund_i, a2]
      exact hP.symm
    have t111a : ((k.toInt = 1 ∧ (m.1 67 (m.1 73 s.toInt.toNat).toInt.toNat).toInt = 3) ∨ (k.toInt = 2 ∧ (m.1 67 (m.1 73 s.toInt.toNat).toInt.toNat).toInt = 5) ∨ (k.toInt = 4 ∧ (m.1 67 (m.1 73 s.toInt.toNat).toInt.toNat).toInt = 6)) → wq_136_106 s k (m.1 73 s.toInt.toNat) (m.1 67 (m.1 73 s.toInt.toNat).toInt.toNat) m Q := fun h => by
      have u := (U _ Iff.rfl).mpr (Or.inr (Or.inr h))
      exact ⟨fun _ => t135 u, fun _ => ⟨fun _ => t135 u, fun _ => ⟨fun _ => t135 u, fun z => absurd z (by decide)⟩⟩⟩
    have t111b : ¬ ((k.toInt = 1 ∧ (m.1 67 (m.1 73 s.toInt.toNat).toInt.toNat).toInt = 3) ∨ (k.toInt = 2 ∧ (m.1 67 (m.1 73 s.toInt.toNat).toInt.toNat).toInt = 5) ∨ (k.toInt = 4 ∧ (m.1 67 (m.1 73 s.toInt.toNat).toInt.toNat).toInt = 6)) → wq_136_110 s k (m.1 73 s.toInt.toNat) (m.1 67 (m.1 73 s.toInt.toNat).toInt.toNat) m Q := fun h => by
      refine ⟨fun e => t135 ((U _ Iff.rfl).mpr (Or.inl e)), fun na => ⟨fun e => t135 ((U _ Iff.rfl).mpr (Or.inr (Or.inl e))), fun nb => ⟨fun z => absurd e0 z, fun _ => zR_q (by decide) K ?_⟩⟩⟩
      exact N2 (fun z => by
        rcases (U _ Iff.rfl).mp z with z | z | z
        · exact na z
        · exact nb z
        · exact h z)
    have t94 : ¬ ((k.toInt = 1 ∧ (m.1 67 (m.1 73 s.toInt.toNat).toInt.toNat).toInt = 3) ∨ (k.toInt = 2 ∧ (m.1 67 (m.1 73 s.toInt.toNat).toInt.toNat).toInt = 5)) → wq_136_94 s k (m.1 73 s.toInt.toNat) (m.1 67 (m.1 73 s.toInt.toNat).toInt.toNat) m Q := fun h => ⟨fun _ => t111b (by omega), fun _ => ⟨fun _ => t111b (by omega), fun _ => t111a (by omega)⟩⟩
    have t83 : ¬ (k.toInt = 1 ∧ (m.1 67 (m.1 73 s.toInt.toNat).toInt.toNat).toInt = 3) → wq_136_83 s k (m.1 73 s.toInt.toNat) (m.1 67 (m.1 73 s.toInt.toNat).toInt.toNat) m Q := fun h => ⟨fun _ => t94 (by omega), fun _ => ⟨fun _ => t111a (by omega), fun _ => t94 (by omega)⟩⟩
    exact ⟨g, hp, fun _ => t83 (by omega), fun _ => ⟨fun _ => t111a (by omega), fun _ => t83 (by omega)⟩⟩
  · have kk := (zhR_k hJ ho (s := s.toInt.toNat) (by omega)).2.2 e
    unfold zN74
    rw [if_neg (by omega), if_pos kk]
    rfl
  · have kk := (zhR_k hJ ho (s := s.toInt.toNat) (by omega)).1 e
    have hl := kk.1
    have b6 := bz.2.1
    unfold zN74
    rw [if_neg (by omega), if_neg (by omega), if_pos (by rw [p6]; omega)]
    rfl
end
