/-! part 74: rows, what is shown: the reference; what is shown: the class -/
/-- origins of rows -/
def zso (m : zf_Me) : Prop := ∀ j, j < 8 → (m.1 70 j).toInt = 1 → 0 ≤ (m.1 71 j).toInt ∧ (m.1 71 j).toInt ≤ 3
section
variable {m : zf_Me}
theorem zf_ul3 {c i : Nat} {x : Int64} : (zf_ul m c i x).2 c i = x := by simp [zf_ul]
theorem zf_ul4 {c i b : Nat} {x : Int64} (h : ¬ b = i) : (zf_ul m c i x).2 c b = m.2 c b := by simp [zf_ul, h]
/-- only rows of shelves of the reference and their longs -/
def zgH (m m' : zf_Me) : Prop := (∀ a, ¬ (70 ≤ a ∧ a ≤ 73) → m'.1 a = m.1 a) ∧ (∀ a, a < 63 → m'.2 a = m.2 a)
theorem zR_noh {r : Int × zH} {w : Int32} {Q : Int32 → zf_Me → Prop} (hw : -8 < w.toInt ∧ w.toInt ≤ 0) (K : ∀ v m', (zgQ m m' ∧ zr m' = zr m ∨ zgH m m' ∧ zsR m' ∧ zso m') → v.toInt = r.1 → zhR m' = r.2 → Q v m') (hh : ∀ m', zgQ m m' → zhR m' = zhR m) (e : r = (w.toInt, zhR m)) : wp_125 w m Q :=
  zs_125 hw (fun m' f => K _ m' (Or.inl ⟨zg64_q f, zg64_r f⟩) (by rw [e]) (by rw [e]; exact hh m' (zg64_q f)))
theorem zhR_q {m' : zf_Me} (h : zgQ m m') : zhR m' = zhR m := by
  funext j
  unfold zhR
  rw [h.1 70 j (by omega), h.1 71 j (by omega), h.1 72 j (by omega), h.1 73 j (by omega), h.2]
theorem zY_130 (hJ : JM m) (ho : zso m) {s o n : Int32} {Q : Int32 → zf_Me → Prop} (K : ∀ v m', (zgQ m m' ∧ zr m' = zr m ∨ zgH m m' ∧ zsR m' ∧ zso m') → v.toInt = (zN68 (zhR m) s.toInt o.toInt n.toInt).1 → zhR m' = (zN68 (zhR m) s.toInt o.toInt n.toInt).2 → Q v m') : wp_130 s o n m Q := by
  have e1 : (1 : Int32).toInt = 1 := rfl
  have no : ∀ {w : Int32}, (-8 < w.toInt ∧ w.toInt ≤ 0) → ¬ (w.toInt = 1) → zrowA s.toInt o.toInt n.toInt = w.toInt → wp_125 w m Q := fun hw h1 e => zR_noh hw K (fun m' => zhR_q) (by unfold zN68; rw [e, if_neg h1])
  refine zs_127 (fun g => ⟨fun _ => ⟨fun g2 => ⟨fun g3 => no (w := -6) (by decide) (by decide) ?_, fun g3 => ⟨fun g4 => ⟨fun g5 => ⟨g, fun m5 q5 => ⟨g, fun m7 q7 => ⟨g, fun m9 q9 => ?_⟩⟩⟩, fun g5 => no (w := -7) (by decide) (by decide) ?_⟩, fun g4 => no (w := -6) (by decide) (by decide) ?_⟩⟩, fun g2 => no (w := -4) (by decide) (by decide) ?_⟩, fun z => (nomatch z)⟩) (fun g => ⟨fun z => (nomatch z), fun _ => no (w := -1) (by decide) (by decide) ?_⟩)
  · unfold zrowA
    rw [if_neg (by omega), if_neg (by omega), if_pos (by omega)]
    rfl
  · have i9 : ∀ a, ¬ (70 ≤ a ∧ a ≤ 73) → m9.1 a = m.1 a := fun a ha => by rw [q9, zf_u1 (by omega), q7, zf_u1 (by omega), q5, zf_u1 (by omega)]
    have e : zrowA s.toInt o.toInt n.toInt = 1 := by
      unfold zrowA
      rw [if_neg (by omega), if_neg (by omega), if_neg (by omega), if_neg (by omega)]
    have k70 : m9.1 70 s.toInt.toNat = 1 := by rw [q9, zf_u1 (by decide), q7, zf_u1 (by decide), q5, zf_u3]
    have k71 : m9.1 71 s.toInt.toNat = o := by rw [q9, zf_u1 (by decide), q7, zf_u3]
    have k72 : m9.1 72 s.toInt.toNat = n := by rw [q9, zf_u3]
    have oth : ∀ j, ¬ j = s.toInt.toNat → m9.1 70 j = m.1 70 j ∧ m9.1 71 j = m.1 71 j ∧ m9.1 72 j = m.1 72 j ∧ m9.1 73 j = m.1 73 j := fun j hj => ⟨by rw [q9, zf_u1 (by decide), q7, zf_u1 (by decide), q5, zf_u4 hj], by rw [q9, zf_u1 (by decide), q7, zf_u4 hj, q5, zf_u1 (by decide)], by rw [q9, zf_u4 hj, q7, zf_u1 (by decide), q5, zf_u1 (by decide)], by rw [q9, zf_u1 (by decide), q7, zf_u1 (by decide), q5, zf_u1 (by decide)]⟩
    have l9 : m9.2 = m.2 := by rw [q9, q7, q5]; rfl
    have lp : ∀ (k : Nat) (v : Int32) (mj : zf_Me), 0 ≤ v.toInt → v.toInt ≤ 160 → 160 - v.toInt < k → mj.1 = m9.1 → (∀ a, ¬ a = 74 → mj.2 a = m.2 a) → (∀ i, ¬ (160 * s.toInt.toNat ≤ i ∧ i < 160 * s.toInt.toNat + 160) → mj.2 74 i = m.2 74 i) → (∀ i, i < v.toInt.toNat → mj.2 74 (160 * s.toInt.toNat + i) = 0) → wq_130_79 s o n Q k v mj := by
      intro k
      induction k with
      | zero => intro v mj k0 k1 k2; omega
      | succ k ih =>
        intro v mj k0 k1 k2 h1 h2 h3 h4
        have S9 : zsR mj := fun j hj => by
          rw [h1]
          by_cases ej : j = s.toInt.toNat
          · rw [ej, k70, k72]
            exact ⟨⟨by decide, by decide⟩, ⟨by omega, by omega⟩, fun z => absurd z (by decide)⟩
          · rw [(oth j ej).1, (oth j ej).2.2.1, (oth j ej).2.2.2]
            exact hJ.2.1 j hj
        have O9 : zso mj := fun j hj => by
          rw [h1]
          by_cases ej : j = s.toInt.toNat
          · rw [ej, k71]
            exact fun _ => ⟨by omega, by omega⟩
          · rw [(oth j ej).1, (oth j ej).2.1]
            exact ho j hj
        refine ⟨fun g6 => K 1 mj (Or.inr ⟨⟨fun a ha => by rw [h1]; exact i9 a ha, fun a ha => h2 a (by omega)⟩, S9, O9⟩) ?_ ?_, fun g6 => ?_⟩
        · show _ = zrowA s.toInt o.toInt n.toInt
          rw [e]
          rfl
        · unfold zN68
          rw [if_pos e, zhR_put (s := s.toInt.toNat) (by omega) (fun j hj hne => ⟨by rw [h1]; exact (oth j hne).1, by rw [h1]; exact (oth j hne).2.1, by rw [h1]; exact (oth j hne).2.2.1, by rw [h1]; exact (oth j hne).2.2.2, fun i hi => h3 _ (by omega)⟩) hJ.2.1]
          rw [h1, k70, k71, k72]
          unfold znorm zcode
          rw [if_pos e1, if_pos (by omega)]
          congr 3
          funext i
          by_cases l : (i : Int) < n.toInt
          · rw [if_pos l]
            exact h4 i (by omega)
          · rw [if_neg l]
        · have t := zix (s := s) (i := v) g (by omega)
          have t2 := fb_addI (x := v) (y := 1) (by omega) (by omega)
          have ei : (160 * s + v).toInt.toNat = 160 * s.toInt.toNat + v.toInt.toNat := by omega
          refine ⟨by omega, fun m11 q11 => ih _ m11 (by omega) (by omega) (by omega) (by rw [q11]; exact h1) (fun a ha => ?_) (fun i hi => ?_) (fun i hi => ?_)⟩
          · rw [q11]
            exact (if_neg ha).trans (h2 a ha)
          · rw [q11, ei, zf_ul4 (by omega)]
            exact h3 i hi
          · rw [q11, ei]
            by_cases ee : i = v.toInt.toNat
            · rw [ee, zf_ul3]
            · rw [zf_ul4 (by omega)]
              exact h4 i (by omega)
    exact ⟨162, lp 162 0 m9 (by decide) (by decide) (by decide) rfl (fun a _ => by rw [l9]) (fun i _ => by rw [l9]) (fun i hi => absurd hi (Nat.not_lt_zero _))⟩
  · unfold zrowA
    rw [if_neg (by omega), if_neg (by omega), if_neg (by omega), if_pos (by omega)]
    rfl
  · unfold zrowA
    rw [if_neg (by omega), if_neg (by omega), if_pos (by omega)]
    rfl
  · unfold zrowA
    rw [if_neg (by omega), if_pos (by omega)]
    rfl
  · unfold zrowA
    rw [if_pos (by omega)]
    rfl
theorem zX_72 (hJ : JX m) {s p : Int32} {Q : Int32 → zf_Me → Prop} (K : ∀ v m', (zq m m' ∨ zfS m m' ∧ zsz m') → v.toInt = (zN72 (zhC m) (zv 2 3 8 m 5 6) s.toInt p.toInt).1 → zhC m' = (zN72 (zhC m) (zv 2 3 8 m 5 6) s.toInt p.toInt).2 → Q v m') : wp_72 s p m Q := by
  have b := zB_v hJ.1
  have q : zv 2 3 8 m 5 6 = (m.1 3 5).toInt := rfl
  have t32 : (0 ≤ s.toInt ∧ s.toInt < 8) → p.toInt = -1 ∨ (0 ≤ p.toInt ∧ p.toInt < (m.1 3 5).toInt) → wq_72_32 s p m Q := by
    intro g hp
    refine ⟨g, fun m7 q7 => ?_⟩
    have F : zfS m m7 := by
      rw [q7]
      exact ⟨fun a ha => zf_u1 (by omega), fun _ _ => rfl⟩
    have H : zhC m7 = zput (zhC m) s.toInt.toNat (p.toInt, 0, fun _ => 0) := by
      rw [zhC_put (m := m) (m' := m7) (s := s.toInt.toNat) (by omega) (fun j hj hne => ⟨by rw [q7, zf_u1 (by omega)], by rw [q7]; rfl⟩)]
      congr 1
      have c : (m7.1 (47 + 2 * s.toInt.toNat) 1).toInt = p.toInt := by rw [q7, zf_u3]
      unfold znorm
      rw [c, if_neg (by omega)]
    have FF : zfS m m7 ∧ zsz m7 := ⟨F, fun j hj => by
      rw [q7]
      by_cases ej : j = s.toInt.toNat
      · rw [ej, zf_u4 (by decide)]
        exact hJ.2.2 _ (by omega)
      · rw [zf_u1 (by omega)]
        exact hJ.2.2 j hj⟩
    refine ⟨fun n => K _ m7 (Or.inr FF) ?_ ?_, fun e => K _ m7 (Or.inr FF) ?_ ?_⟩
    · unfold zN72
      rw [if_neg (by omega), if_neg (by omega), if_pos (by omega)]
      rfl
    · unfold zN72
      rw [if_neg (by omega), if_neg (by omega), if_pos (by omega)]
      exact H
    · unfold zN72
      rw [if_neg (by omega), if_pos e]
      rfl
    · unfold zN72
      rw [if_neg (by omega), if_pos e, H, e]
  refine zs_114 (fun g => ⟨fun z => (nomatch z), fun _ => ⟨fun e => t32 g (Or.inl e), fun ne => zs_65t (fun k => ⟨fun _ => t32 g (Or.inr k), fun z => (nomatch z)⟩) (fun k => ⟨fun z => (nomatch z), fun _ => zC_noh (by decide) K ?_⟩)⟩⟩) (fun g => ⟨fun _ => zC_noh (by decide) K (if_pos g), fun z => (nomatch z)⟩)
  unfold zN72
  rw [if_neg (by omega), if_neg (by omega), if_neg (by omega)]
  rfl
theorem zY_134 (hJ : JM m) (ho : zso m) {s p : Int32} {Q : Int32 → zf_Me → Prop} (K : ∀ v m', (zgQ m m' ∧ zr m' = zr m ∨ zgH m m' ∧ zsR m' ∧ zso m') → v.toInt = (zN72 (zhR m) (zr m 5 6) s.toInt p.toInt).1 → zhR m' = (zN72 (zhR m) (zr m 5 6) s.toInt p.toInt).2 → Q v m') : wp_134 s p m Q := by
  have b := zB_r hJ.1
  have q : zr m 5 6 = (m.1 63 1).toInt := rfl
  have t42 : (0 ≤ s.toInt ∧ s.toInt < 8) → ∀ u : Int32, (u.toInt = 2 ∧ (0 ≤ p.toInt ∧ p.toInt < (m.1 63 1).toInt)) ∨ (u.toInt = 0 ∧ p.toInt = -1) → wq_134_42 s p u s m Q := by
    intro g u hu
    refine ⟨g, fun m5 q5 => ⟨g, fun m7 q7 => ?_⟩⟩
    have F : zgH m m7 := ⟨fun a ha => by rw [q7, zf_u1 (by omega), q5, zf_u1 (by omega)], fun a ha => by rw [q7, q5]; rfl⟩
    have H : zhR m7 = zput (zhR m) s.toInt.toNat (p.toInt, 0, fun _ => 0) := by
      rw [zhR_put (m := m) (m' := m7) (s := s.toInt.toNat) (by omega) (fun j hj hne => ⟨by rw [q7, zf_u1 (by decide), q5, zf_u4 hne], by rw [q7, zf_u1 (by decide), q5, zf_u1 (by decide)], by rw [q7, zf_u1 (by decide), q5, zf_u1 (by decide)], by rw [q7, zf_u4 hne, q5, zf_u1 (by decide)], fun i _ => by rw [q7, q5]; rfl⟩) hJ.2.1]
      congr 1
      have c0 : (m7.1 70 s.toInt.toNat).toInt = u.toInt := by rw [q7, zf_u1 (by decide), q5, zf_u3]
      have c3 : (m7.1 73 s.toInt.toNat).toInt = p.toInt := by rw [q7, zf_u3]
      rw [c0, c3]
      have cc : ∀ o, zcode u.toInt o p.toInt = p.toInt := fun o => by
        unfold zcode
        rcases hu with hu | hu
        · rw [if_neg (by omega), if_pos hu.1]
        · rw [if_neg (by omega), if_neg (by omega)]
          exact hu.2.symm
      rw [cc]
      unfold znorm
      rw [if_neg (by omega)]
    have FF : zgH m m7 ∧ zsR m7 ∧ zso m7 := by
      refine ⟨F, fun j hj => ?_, fun j hj => ?_⟩
      · have k72 : m7.1 72 j = m.1 72 j := by rw [q7, zf_u1 (by decide), q5, zf_u1 (by decide)]
        have bj := hJ.2.1 j hj
        rw [k72]
        by_cases ej : j = s.toInt.toNat
        · have c0 : m7.1 70 j = u := by rw [ej, q7, zf_u1 (by decide), q5, zf_u3]
          have c3 : m7.1 73 j = p := by rw [ej, q7, zf_u3]
          rw [c0, c3]
          exact ⟨by omega, bj.2.1, fun z => by omega⟩
        · have c0 : m7.1 70 j = m.1 70 j := by rw [q7, zf_u1 (by decide), q5, zf_u4 ej]
          have c3 : m7.1 73 j = m.1 73 j := by rw [q7, zf_u4 ej, q5, zf_u1 (by decide)]
          rw [c0, c3]
          exact bj
      · have c1 : m7.1 71 j = m.1 71 j := by rw [q7, zf_u1 (by decide), q5, zf_u1 (by decide)]
        rw [c1]
        by_cases ej : j = s.toInt.toNat
        · have c0 : m7.1 70 j = u := by rw [ej, q7, zf_u1 (by decide), q5, zf_u3]
          rw [c0]
          exact fun z => by omega
        · have c0 : m7.1 70 j = m.1 70 j := by rw [q7, zf_u1 (by decide), q5, zf_u4 ej]
          rw [c0]
          exact ho j hj
    refine ⟨fun n => K _ m7 (Or.inr FF) ?_ ?_, fun e => K _ m7 (Or.inr FF) ?_ ?_⟩
    · unfold zN72
      rw [if_neg (by omega), if_neg (by omega), if_pos (by omega)]
      rfl
    · unfold zN72
      rw [if_neg (by omega), if_neg (by omega), if_pos (by omega)]
      exact H
    · unfold zN72
      rw [if_neg (by omega), if_pos e]
      rfl
    · unfold zN72
      rw [if_neg (by omega), if_pos e, H, e]
  have t27 : (0 ≤ s.toInt ∧ s.toInt < 8) → p.toInt = -1 ∨ (0 ≤ p.toInt ∧ p.toInt < (m.1 63 1).toInt) → wq_134_27 s p m Q := fun g hp => ⟨fun n => t42 g 2 (Or.inl ⟨rfl, hp.resolve_left n⟩), fun e => t42 g 0 (Or.inr ⟨rfl, e⟩)⟩
  refine zs_127 (fun g => ⟨fun z => (nomatch z), fun _ => ⟨fun e => t27 g (Or.inl e), fun ne => zs_128 (fun k => ⟨fun _ => t27 g (Or.inr k), fun z => (nomatch z)⟩) (fun k => ⟨fun z => (nomatch z), fun _ => zR_noh (by decide) K (fun m' => zhR_q) ?_⟩)⟩⟩) (fun g => ⟨fun _ => zR_noh (by decide) K (fun m' => zhR_q) (if_pos g), fun z => (nomatch z)⟩)
  unfold zN72
  rw [if_neg (by omega), if_neg (by omega), if_neg (by omega)]
  rfl
end
