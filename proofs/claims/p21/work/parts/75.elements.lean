/-! part 75: elements set and told, on both sides -/
def zN69 (h : zH) (s i : Int) (x : Int64) : Int × zH := if ¬ (0 ≤ s ∧ s < 8) then (-1, h) else if (h s.toNat).1 < 100 then ((if (h s.toNat).1 = -1 then -3 else -2), h) else if ¬ (0 ≤ i ∧ i < (h s.toNat).2.1) then (-5, h) else (1, zput h s.toNat ((h s.toNat).1, (h s.toNat).2.1, fun k => if k = i.toNat then zconv ((h s.toNat).1 - 100) x else (h s.toNat).2.2 k))
theorem znorm_1 {c l : Int} {e : Nat → Int64} : (znorm c l e).1 = c := by
  unfold znorm
  split <;> rfl
theorem znorm_u {c l : Int} {e : Nat → Int64} {i : Nat} {y : Int64} (hc : 100 ≤ c) (hi : (i : Int) < l) : znorm c l (fun k => if k = i then y else e k) = (c, l, fun k => if k = i then y else (znorm c l e).2.2 k) := by
  unfold znorm
  rw [if_pos hc, if_pos hc]
  congr 2
  funext k
  by_cases ek : k = i
  · rw [if_pos ek, ek, if_pos hi]
    exact if_pos rfl
  · rw [if_neg ek]
    show (if (k : Int) < l then (if k = i then y else e k) else 0) = (if (k : Int) < l then e k else 0)
    rw [if_neg ek]
section
variable {m : zf_Me}
theorem zhC_at {s : Nat} (hs : s < 8) : zhC m s = znorm (m.1 (47 + 2 * s) 1).toInt (m.1 (47 + 2 * s) 2).toInt (m.2 (48 + 2 * s)) := if_pos hs
theorem zhR_at {s : Nat} (hs : s < 8) : zhR m s = znorm (zcode (m.1 70 s).toInt (m.1 71 s).toInt (m.1 73 s).toInt) (m.1 72 s).toInt (fun i => m.2 74 (160 * s + i)) := if_pos hs
theorem zs_23x {c r : Nat} {i : Int32} {x : Int64} (hi : 0 ≤ i.toInt ∧ i.toInt < 160) (hc : 100 ≤ (m.1 c 1).toInt) {Q : zf_Me → Prop} (hq : Q (zf_ul m r i.toInt.toNat (zconv ((m.1 c 1).toInt - 100) x))) : wp_23 c r i x m Q := by
  have e100 : (100 : Int32).toInt = 100 := rfl
  have b := fb_rng (m.1 c 1)
  have s := fb_subI (x := m.1 c 1) (y := 100) (by omega) (by omega)
  rw [e100] at s
  unfold zconv at hq
  refine ⟨fun g => ⟨hi, fun m1 q1 => ?_⟩, fun g => ⟨hi, fun m1 q1 => ?_⟩, fun g => ⟨hi, fun m1 q1 => ?_⟩, fun g => ⟨hi, fun m1 q1 => ?_⟩⟩
  · rw [if_neg (by omega), if_neg (by omega), if_neg (by omega)] at hq
    rw [q1]
    exact hq
  · rw [if_pos (by omega)] at hq
    rw [q1]
    exact hq
  · rw [if_neg (by omega), if_pos (by omega)] at hq
    rw [q1]
    exact hq
  · rw [if_neg (by omega), if_neg (by omega), if_pos (by omega)] at hq
    rw [q1]
    exact hq
theorem zX_69 (hJ : JX m) {s i : Int32} {x : Int64} {Q : Int32 → zf_Me → Prop} (K : ∀ v m', (zq m m' ∨ zfS m m' ∧ zsz m') → v.toInt = (zN69 (zhC m) s.toInt i.toInt x).1 → zhC m' = (zN69 (zhC m) s.toInt i.toInt x).2 → Q v m') : wp_69 s i x m Q := by
  refine zs_111 (fun g hc => ⟨fun _ => ⟨g, zs_20 (fun hi => ⟨fun _ => ⟨g, ?_⟩, fun z => (nomatch z)⟩) (fun hi => ⟨fun z => (nomatch z), fun _ => zC_noh (by decide) K ?_⟩)⟩, fun z => absurd rfl z⟩) (fun g => ⟨fun z => absurd z (by decide), fun _ => zC_noh (by decide) K (if_pos g)⟩) (fun g hc hn => ⟨fun z => absurd z (by decide), fun _ => zC_noh (by decide) K ?_⟩) (fun g hc => ⟨fun z => absurd z (by decide), fun _ => zC_noh (by decide) K ?_⟩)
  · have a := zhC_at (m := m) (s := s.toInt.toNat) (by omega)
    have sz := hJ.2.2 s.toInt.toNat (by omega)
    have c1 : (zhC m s.toInt.toNat).1 = (m.1 (47 + 2 * s.toInt.toNat) 1).toInt := by rw [a, znorm_1]
    have c2 : (zhC m s.toInt.toNat).2.1 = (m.1 (47 + 2 * s.toInt.toNat) 2).toInt := by rw [a]; unfold znorm; rw [if_pos hc]
    refine zs_23x (by omega) hc ?_
    obtain ⟨m', q'⟩ : ∃ m', m' = zf_ul m (48 + 2 * s.toInt.toNat) i.toInt.toNat (zconv ((m.1 (47 + 2 * s.toInt.toNat) 1).toInt - 100) x) := ⟨_, rfl⟩
    rw [← q']
    refine K 1 m' (Or.inr ⟨by rw [q']; exact zfS_l (by omega), by rw [q']; exact hJ.2.2⟩) ?_ ?_
    · unfold zN69
      rw [if_neg (by omega), if_neg (by rw [c1]; omega), if_neg (by rw [c2]; omega)]
      rfl
    · unfold zN69
      rw [if_neg (by omega), if_neg (by rw [c1]; omega), if_neg (by rw [c2]; omega)]
      rw [zhC_put (m := m) (m' := m') (s := s.toInt.toNat) (by omega) (fun j hj hne => ⟨by rw [q']; rfl, by rw [q']; exact if_neg (by omega)⟩)]
      show zput (zhC m) _ _ = zput (zhC m) _ _
      congr 1
      rw [c1, c2, a, show m'.1 = m.1 by rw [q']; rfl]
      refine Eq.trans ?_ (znorm_u hc (by omega))
      congr 1
      funext k
      rw [q']
      by_cases ek : k = i.toInt.toNat
      · rw [if_pos ek, ek, zf_ul3]
      · rw [if_neg ek, zf_ul4 ek]
  · have a := zhC_at (m := m) (s := s.toInt.toNat) (by omega)
    have c1 : (zhC m s.toInt.toNat).1 = (m.1 (47 + 2 * s.toInt.toNat) 1).toInt := by rw [a, znorm_1]
    have c2 : (zhC m s.toInt.toNat).2.1 = (m.1 (47 + 2 * s.toInt.toNat) 2).toInt := by rw [a]; unfold znorm; rw [if_pos hc]
    unfold zN69
    rw [if_neg (by omega), if_neg (by rw [c1]; omega), if_pos (by rw [c2]; exact hi)]
    rfl
  · have a := zhC_at (m := m) (s := s.toInt.toNat) (by omega)
    have c1 : (zhC m s.toInt.toNat).1 = (m.1 (47 + 2 * s.toInt.toNat) 1).toInt := by rw [a, znorm_1]
    unfold zN69
    rw [if_neg (by omega), if_pos (by rw [c1]; omega), if_neg (by rw [c1]; exact hn)]
    rfl
  · have a := zhC_at (m := m) (s := s.toInt.toNat) (by omega)
    have c1 : (zhC m s.toInt.toNat).1 = (m.1 (47 + 2 * s.toInt.toNat) 1).toInt := by rw [a, znorm_1]
    unfold zN69
    rw [if_neg (by omega), if_pos (by rw [c1]; omega), if_pos (by rw [c1]; exact hc)]
    rfl
theorem zY_131 (hJ : JM m) (ho : zso m) {s i : Int32} {x : Int64} {Q : Int32 → zf_Me → Prop} (K : ∀ v m', (zgQ m m' ∧ zr m' = zr m ∨ zgH m m' ∧ zsR m' ∧ zso m') → v.toInt = (zN69 (zhR m) s.toInt i.toInt x).1 → zhR m' = (zN69 (zhR m) s.toInt i.toInt x).2 → Q v m') : wp_131 s i x m Q := by
  have no := fun {w : Int32} (hw : -8 < w.toInt ∧ w.toInt ≤ 0) (e : zN69 (zhR m) s.toInt i.toInt x = (w.toInt, zhR m)) => zR_noh (m := m) (Q := Q) hw K (fun m' => zhR_q) e
  refine zs_127 (fun g => ⟨fun _ => ?_, fun z => (nomatch z)⟩) (fun g => ⟨fun z => (nomatch z), fun _ => no (by decide) (if_pos g)⟩)
  have a := zhR_at (m := m) (s := s.toInt.toNat) (by omega)
  have b := hJ.2.1 s.toInt.toNat (by omega)
  have c1 : (zhR m s.toInt.toNat).1 = zcode (m.1 70 s.toInt.toNat).toInt (m.1 71 s.toInt.toNat).toInt (m.1 73 s.toInt.toNat).toInt := by rw [a, znorm_1]
  refine ⟨g, fun k2 => ⟨g, fun k0 => ?_, fun k0 => no (by decide) ?_⟩, fun k2 => no (by decide) ?_⟩
  · have k1 : (m.1 70 s.toInt.toNat).toInt = 1 := by omega
    have o := ho s.toInt.toNat (by omega) k1
    have cz : zcode (m.1 70 s.toInt.toNat).toInt (m.1 71 s.toInt.toNat).toInt (m.1 73 s.toInt.toNat).toInt = 100 + (m.1 71 s.toInt.toNat).toInt := if_pos k1
    rw [cz] at c1 a
    have c2 : (zhR m s.toInt.toNat).2.1 = (m.1 72 s.toInt.toNat).toInt := by rw [a]; unfold znorm; rw [if_pos (by omega)]
    have bad : ¬ (0 ≤ i.toInt ∧ i.toInt < (m.1 72 s.toInt.toNat).toInt) → zN69 (zhR m) s.toInt i.toInt x = ((-5 : Int32).toInt, zhR m) := fun n => by
      unfold zN69
      rw [if_neg (by omega), if_neg (by rw [c1]; omega), if_pos (by rw [c2]; exact n)]
      rfl
    refine ⟨fun i0 => no (by decide) (bad (by omega)), fun i0 => ⟨g, fun il => ?_, fun il => no (by decide) (bad (by omega))⟩⟩
    have t := zix (s := s) (i := i) g (by omega)
    have ei : (160 * s + i).toInt.toNat = 160 * s.toInt.toNat + i.toInt.toNat := by omega
    have L : ∀ m', m' = zf_ul m 74 (160 * s + i).toInt.toNat (zconv (m.1 71 s.toInt.toNat).toInt x) → Q 1 m' := fun m' q' => by
      have F : zgH m m' := by
        rw [q']
        exact ⟨fun a _ => rfl, fun a ha => if_neg (by omega)⟩
      refine K 1 m' (Or.inr ⟨F, by rw [q']; exact hJ.2.1, by rw [q']; exact ho⟩) ?_ ?_
      · unfold zN69
        rw [if_neg (by omega), if_neg (by rw [c1]; omega), if_neg (by rw [c2]; omega)]
        rfl
      · unfold zN69
        rw [if_neg (by omega), if_neg (by rw [c1]; omega), if_neg (by rw [c2]; omega)]
        rw [zhR_put (m := m) (m' := m') (s := s.toInt.toNat) (by omega) (fun j hj hne => ⟨by rw [q']; rfl, by rw [q']; rfl, by rw [q']; rfl, by rw [q']; rfl, fun k hk => by rw [q', ei, zf_ul4 (by omega)]⟩) hJ.2.1]
        show zput (zhR m) _ _ = zput (zhR m) _ _
        congr 1
        rw [c1, c2, a, show m'.1 = m.1 by rw [q']; rfl, cz]
        refine Eq.trans ?_ (znorm_u (by omega) (by omega))
        congr 1
        funext k
        rw [q', ei]
        by_cases ek : k = i.toInt.toNat
        · rw [if_pos ek, ek, zf_ul3, show (100 + (m.1 71 s.toInt.toNat).toInt - 100) = (m.1 71 s.toInt.toNat).toInt by omega]
        · rw [if_neg ek, zf_ul4 (by omega)]
    unfold zconv at L
    refine ⟨g, fun n0 => ⟨g, fun n1 => ⟨g, fun n2 => ⟨by omega, ?_⟩, fun n2 => ⟨by omega, ?_⟩⟩, fun n1 => ⟨by omega, ?_⟩⟩, fun n0 => ⟨by omega, ?_⟩⟩
    · rw [if_neg n0, if_neg n1, if_neg n2] at L
      exact L
    · rw [if_neg n0, if_neg n1, if_pos n2] at L
      exact L
    · rw [if_neg n0, if_pos n1] at L
      exact L
    · rw [if_pos n0] at L
      exact L
  · have cz : zcode (m.1 70 s.toInt.toNat).toInt (m.1 71 s.toInt.toNat).toInt (m.1 73 s.toInt.toNat).toInt = -1 := by
      unfold zcode
      rw [if_neg (by omega), if_neg (by omega)]
    rw [cz] at c1
    unfold zN69
    rw [if_neg (by omega), if_pos (by rw [c1]; decide), if_pos c1]
    rfl
  · have p := b.2.2 k2
    have cz : zcode (m.1 70 s.toInt.toNat).toInt (m.1 71 s.toInt.toNat).toInt (m.1 73 s.toInt.toNat).toInt = (m.1 73 s.toInt.toNat).toInt := by
      unfold zcode
      rw [if_neg (by omega), if_pos k2]
    rw [cz] at c1
    unfold zN69
    rw [if_neg (by omega), if_pos (by rw [c1]; omega), if_neg (by rw [c1]; omega)]
    rfl
end
