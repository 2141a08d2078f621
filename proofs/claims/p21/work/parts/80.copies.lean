/-! part 80: copies from row to row, elements, what shelves hold: the class -/
def zK (h : zH) (s : Int) : Int := if ¬ (0 ≤ s ∧ s < 8) then 1 else if 100 ≤ (h s.toNat).1 then 0 else if (h s.toNat).1 = -1 then 3 else 2
def zN112 (h : zH) (p q : Int) : Int := if zK h p = 1 ∨ zK h q = 1 then 1 else if zK h p = 2 ∨ zK h q = 2 then 2 else if zK h p = 3 ∨ zK h q = 3 then 3 else if (h p.toNat).1 = (h q.toNat).1 then 0 else 2
def zcpy (a b : zHe) (i j n : Nat) : zHe := (b.1, b.2.1, fun k => if j ≤ k ∧ k < j + n then a.2.2 (i + (k - j)) else b.2.2 k)
def zN70 (h : zH) (p q i j n : Int) : Int × zH := if ¬ zN112 h p q = 0 then (-(zN112 h p q), h) else if n < 0 then (-4, h) else if i < 0 ∨ j < 0 ∨ (h p.toNat).2.1 < i + n ∨ (h q.toNat).2.1 < j + n then (-5, h) else (1, zput h q.toNat (zcpy (h p.toNat) (h q.toNat) i.toNat j.toNat n.toNat))
def zN73 (h : zH) (s : Int) : Int := if 0 ≤ s ∧ s < 8 then (h s.toNat).1 else -1
theorem zK_1 {h : zH} {s : Int} : zK h s = 1 ↔ ¬ (0 ≤ s ∧ s < 8) := by
  unfold zK
  split
  · exact iff_of_true rfl (by assumption)
  · refine iff_of_false ?_ (by assumption)
    split
    · decide
    · split <;> decide
theorem zK_0 {h : zH} {s : Int} : zK h s = 0 ↔ (0 ≤ s ∧ s < 8) ∧ 100 ≤ (h s.toNat).1 := by
  unfold zK
  split
  · rename_i g
    exact iff_of_false (by decide) (fun z => g z.1)
  · rename_i g
    split
    · rename_i g2
      exact iff_of_true rfl ⟨Decidable.not_not.mp g, g2⟩
    · rename_i g2
      refine iff_of_false ?_ (fun z => g2 z.2)
      split <;> decide
theorem zK_b {h : zH} {s : Int} : 0 ≤ zK h s ∧ zK h s ≤ 3 := by
  unfold zK
  split
  · decide
  · split
    · decide
    · split <;> decide
theorem zN112_b {h : zH} {p q : Int} : 0 ≤ zN112 h p q ∧ zN112 h p q ≤ 3 := by
  unfold zN112
  split
  · decide
  · split
    · decide
    · split
      · decide
      · split <;> decide
theorem zN112_0 {h : zH} {p q : Int} (e : zN112 h p q = 0) : ((0 ≤ p ∧ p < 8) ∧ 100 ≤ (h p.toNat).1) ∧ ((0 ≤ q ∧ q < 8) ∧ 100 ≤ (h q.toNat).1) ∧ (h p.toNat).1 = (h q.toNat).1 := by
  have bp := zK_b (h := h) (s := p)
  have bq := zK_b (h := h) (s := q)
  unfold zN112 at e
  split at e
  · cases e
  · split at e
    · cases e
    · split at e
      · cases e
      · split at e
        · exact ⟨zK_0.mp (by omega), zK_0.mp (by omega), by assumption⟩
        · cases e
section
variable {m : zf_Me}
theorem zs_111x {s : Int32} {Q : Int32 → zf_Me → Prop} (hq : ∀ x : Int32, x.toInt = zK (zhC m) s.toInt → Q x m) : wp_111 s m Q := by
  have c1 := fun (g : 0 ≤ s.toInt ∧ s.toInt < 8) => zhC_c (m := m) (s := s.toInt.toNat) (by omega)
  refine zs_111 (fun g hc => hq 0 ?_) (fun g => hq 1 (if_pos g).symm) (fun g hc hn => hq 2 ?_) (fun g hc => hq 3 ?_)
  · unfold zK
    rw [if_neg (fun z => z g), if_pos (by rw [c1 g]; exact hc)]
    rfl
  · unfold zK
    rw [if_neg (fun z => z g), if_neg (by rw [c1 g]; omega), if_neg (by rw [c1 g]; exact hn)]
    rfl
  · unfold zK
    rw [if_neg (fun z => z g), if_neg (by rw [c1 g]; omega), if_pos (by rw [c1 g]; exact hc)]
    rfl
theorem zs_112x {p q : Int32} {Q : Int32 → zf_Me → Prop} (hq : ∀ x : Int32, x.toInt = zN112 (zhC m) p.toInt q.toInt → Q x m) : wp_112 p q m Q := by
  refine zs_111x (fun x1 h1 => zs_111x (fun x3 h3 => ?_))
  have one : zK (zhC m) p.toInt = 1 ∨ zK (zhC m) q.toInt = 1 → Q 1 m := fun g => hq 1 (by unfold zN112; rw [if_pos g]; rfl)
  have two : ¬ (zK (zhC m) p.toInt = 1 ∨ zK (zhC m) q.toInt = 1) → zK (zhC m) p.toInt = 2 ∨ zK (zhC m) q.toInt = 2 → Q 2 m := fun n g => hq 2 (by unfold zN112; rw [if_neg n, if_pos g]; rfl)
  have tri : ¬ (zK (zhC m) p.toInt = 1 ∨ zK (zhC m) q.toInt = 1) → ¬ (zK (zhC m) p.toInt = 2 ∨ zK (zhC m) q.toInt = 2) → zK (zhC m) p.toInt = 3 ∨ zK (zhC m) q.toInt = 3 → Q 3 m := fun n n2 g => hq 3 (by unfold zN112; rw [if_neg n, if_neg n2, if_pos g]; rfl)
  have fin : ¬ (zK (zhC m) p.toInt = 1 ∨ zK (zhC m) q.toInt = 1) → ¬ (zK (zhC m) p.toInt = 2 ∨ zK (zhC m) q.toInt = 2) → ¬ (zK (zhC m) p.toInt = 3 ∨ zK (zhC m) q.toInt = 3) → zN112 (zhC m) p.toInt q.toInt = if (zhC m p.toInt.toNat).1 = (zhC m q.toInt.toNat).1 then 0 else 2 := fun n n2 n3 => by unfold zN112; rw [if_neg n, if_neg n2, if_neg n3]
  have bp := zK_b (h := zhC m) (s := p.toInt)
  have bq := zK_b (h := zhC m) (s := q.toInt)
  refine ⟨fun e => one (by omega), fun n1 => ⟨fun m1 => ⟨fun e => two (by omega) (by omega), fun n2 => ⟨fun m2 => ⟨fun e => tri (by omega) (by omega) (by omega), fun n3 => ⟨fun m3 => ?_, fun e => tri (by omega) (by omega) (by omega)⟩⟩, fun e => two (by omega) (by omega)⟩⟩, fun e => one (by omega)⟩⟩
  have f := fin (by omega) (by omega) (by omega)
  have gp := (zK_0 (h := zhC m) (s := p.toInt)).mp (by omega)
  have gq := (zK_0 (h := zhC m) (s := q.toInt)).mp (by omega)
  rw [zhC_c (s := p.toInt.toNat) (by omega), zhC_c (s := q.toInt.toNat) (by omega)] at f
  exact ⟨gp.1, gq.1, fun ne => hq 2 (by rw [f, if_neg ne]; rfl), fun eq => hq 0 (by rw [f, if_pos eq]; rfl)⟩
theorem zX_70 (hJ : JX m) {p q i j n : Int32} {Q : Int32 → zf_Me → Prop} (K : ∀ v m', (zq m m' ∨ zfS m m' ∧ zsz m') → v.toInt = (zN70 (zhC m) p.toInt q.toInt i.toInt j.toInt n.toInt).1 → zhC m' = (zN70 (zhC m) p.toInt q.toInt i.toInt j.toInt n.toInt).2 → Q v m') : wp_70 p q i j n m Q := by
  refine zs_112x (fun x1 h1 => ⟨fun e => ?_, fun ne => zC_noh (by have := zN112_b (h := zhC m) (p := p.toInt) (q := q.toInt); omega) K (by unfold zN70; rw [if_pos (by rw [← h1]; exact ne), h1])⟩)
  have z0 := h1.symm.trans e
  obtain ⟨⟨gp, rp⟩, ⟨gq, rq⟩, eq⟩ := zN112_0 z0
  have cp := zhC_c (m := m) (s := p.toInt.toNat) (by omega)
  have cq := zhC_c (m := m) (s := q.toInt.toNat) (by omega)
  have lp := zhC_l (m := m) (s := p.toInt.toNat) (by omega) (by rw [← cp]; exact rp)
  have lq := zhC_l (m := m) (s := q.toInt.toNat) (by omega) (by rw [← cq]; exact rq)
  have z1 := hJ.2.2 p.toInt.toNat (by omega)
  have z2 := hJ.2.2 q.toInt.toNat (by omega)
  have N0 : ¬ (¬ zN112 (zhC m) p.toInt q.toInt = 0) := fun z => z z0
  have five : ¬ (0 ≤ i.toInt ∧ 0 ≤ n.toInt ∧ i.toInt + n.toInt ≤ (m.1 (47 + 2 * p.toInt.toNat) 2).toInt) ∨ ¬ (0 ≤ j.toInt ∧ 0 ≤ n.toInt ∧ j.toInt + n.toInt ≤ (m.1 (47 + 2 * q.toInt.toNat) 2).toInt) → 0 ≤ n.toInt → wp_109 5 m (fun x m' => Q x m') := fun g n0 => zC_noh (by decide) K (by unfold zN70; rw [if_neg N0, if_neg (by omega), if_pos (by rw [lp, lq]; omega)]; rfl)
  refine ⟨fun n0 => ⟨gp, gq, zs_21 z1 (fun t1 => ⟨fun z => (nomatch z), fun _ => zs_21 z2 (fun t2 => ⟨fun _ => ⟨⟨by omega, by omega, by omega, by omega, by omega⟩, fun m13 q13 => ?_⟩, fun z => (nomatch z)⟩) (fun t2 => ⟨fun z => (nomatch z), fun _ => five (Or.inr t2) n0⟩)⟩) (fun t1 => ⟨fun _ => five (Or.inl t1) n0, fun z => (nomatch z)⟩)⟩, fun n0 => zC_noh (by decide) K (by unfold zN70; rw [if_neg N0, if_pos n0]; rfl)⟩
  have r : zN70 (zhC m) p.toInt q.toInt i.toInt j.toInt n.toInt = (1, zput (zhC m) q.toInt.toNat (zcpy (zhC m p.toInt.toNat) (zhC m q.toInt.toNat) i.toInt.toNat j.toInt.toNat n.toInt.toNat)) := by
    unfold zN70
    rw [if_neg N0, if_neg (by omega), if_neg (by rw [lp, lq]; omega)]
  have hS : zfS m m13 := by
    rw [q13]
    exact ⟨fun _ _ => rfl, fun a ha => if_neg (by omega)⟩
  refine K 1 m13 (Or.inr ⟨hS, by rw [q13]; exact hJ.2.2⟩) (by rw [r]; rfl) ?_
  rw [r]
  show zhC m13 = zput (zhC m) q.toInt.toNat _
  rw [zhC_put (m := m) (m' := m13) (s := q.toInt.toNat) (by omega) (fun k hk hne => ⟨by rw [q13]; rfl, by rw [q13]; exact if_neg (by omega)⟩)]
  congr 1
  have ap := zhC_at (m := m) (s := p.toInt.toNat) (by omega)
  have aq := zhC_at (m := m) (s := q.toInt.toNat) (by omega)
  have up : zhC m p.toInt.toNat = ((m.1 (47 + 2 * p.toInt.toNat) 1).toInt, (m.1 (47 + 2 * p.toInt.toNat) 2).toInt, fun (k : Nat) => if (k : Int) < (m.1 (47 + 2 * p.toInt.toNat) 2).toInt then m.2 (48 + 2 * p.toInt.toNat) k else 0) := ap.trans (if_pos (by rw [← cp]; exact rp))
  have uq : zhC m q.toInt.toNat = ((m.1 (47 + 2 * q.toInt.toNat) 1).toInt, (m.1 (47 + 2 * q.toInt.toNat) 2).toInt, fun (k : Nat) => if (k : Int) < (m.1 (47 + 2 * q.toInt.toNat) 2).toInt then m.2 (48 + 2 * q.toInt.toNat) k else 0) := aq.trans (if_pos (by rw [← cq]; exact rq))
  rw [up, uq, show m13.1 = m.1 by rw [q13]; rfl]
  unfold zcpy
  refine (if_pos (by rw [← cq]; exact rq) : znorm _ _ _ = _).trans ?_
  congr 2
  funext k
  have e13 : m13.2 (48 + 2 * q.toInt.toNat) k = if j.toInt.toNat ≤ k ∧ k < j.toInt.toNat + n.toInt.toNat then m.2 (48 + 2 * p.toInt.toNat) (i.toInt.toNat + (k - j.toInt.toNat)) else m.2 (48 + 2 * q.toInt.toNat) k := by
    rw [q13]
    simp [zf_cpl]
  show (if (k : Int) < (m.1 (47 + 2 * q.toInt.toNat) 2).toInt then m13.2 (48 + 2 * q.toInt.toNat) k else 0) = if j.toInt.toNat ≤ k ∧ k < j.toInt.toNat + n.toInt.toNat then (if ((i.toInt.toNat + (k - j.toInt.toNat) : Nat) : Int) < (m.1 (47 + 2 * p.toInt.toNat) 2).toInt then m.2 (48 + 2 * p.toInt.toNat) (i.toInt.toNat + (k - j.toInt.toNat)) else 0) else (if (k : Int) < (m.1 (47 + 2 * q.toInt.toNat) 2).toInt then m.2 (48 + 2 * q.toInt.toNat) k else 0)
  rw [e13]
  by_cases g : j.toInt.toNat ≤ k ∧ k < j.toInt.toNat + n.toInt.toNat
  · rw [if_pos g, if_pos g, if_pos (by omega), if_pos (by omega)]
  · rw [if_neg g, if_neg g]
theorem zX_71 (hJ : JX m) {s i : Int32} {Q : Int64 → zf_Me → Prop} (K : Q (zN71 (zhC m) s.toInt i.toInt) m) : wp_71 s i m Q := by
  refine zs_111x (fun x h => ⟨fun ne => ?_, fun e => ?_⟩)
  · have : zN71 (zhC m) s.toInt i.toInt = 0 := if_neg (fun z => ne (h.trans (zK_0.mpr ⟨z.1, z.2.1⟩)))
    rw [this] at K
    exact K
  · obtain ⟨g, r⟩ := zK_0.mp (h.symm.trans e)
    have c := zhC_c (m := m) (s := s.toInt.toNat) (by omega)
    have l := zhC_l (m := m) (s := s.toInt.toNat) (by omega) (by rw [← c]; exact r)
    have z1 := hJ.2.2 s.toInt.toNat (by omega)
    refine ⟨g, zs_20 (fun t => ⟨fun _ => ⟨g, ⟨by omega, by omega⟩, ?_⟩, fun z => (nomatch z)⟩) (fun t => ⟨fun z => (nomatch z), fun _ => ?_⟩)⟩
    · have u : zhC m s.toInt.toNat = ((m.1 (47 + 2 * s.toInt.toNat) 1).toInt, (m.1 (47 + 2 * s.toInt.toNat) 2).toInt, fun (k : Nat) => if (k : Int) < (m.1 (47 + 2 * s.toInt.toNat) 2).toInt then m.2 (48 + 2 * s.toInt.toNat) k else 0) := (zhC_at (m := m) (s := s.toInt.toNat) (by omega)).trans (if_pos (by rw [← c]; exact r))
      have : zN71 (zhC m) s.toInt i.toInt = m.2 (48 + 2 * s.toInt.toNat) i.toInt.toNat := by
        unfold zN71
        rw [if_pos ⟨g, r, by rw [l]; omega⟩, u]
        exact if_pos (by omega)
      rw [this] at K
      exact K
    · have : zN71 (zhC m) s.toInt i.toInt = 0 := if_neg (fun z => t (by have := z.2.2; rw [l] at this; exact this))
      rw [this] at K
      exact K
theorem zX_73 {s : Int32} {Q : Int32 → zf_Me → Prop} (K : ∀ v : Int32, v.toInt = zN73 (zhC m) s.toInt → Q v m) : wp_73 s m Q := by
  refine zs_114 (fun g => ⟨fun z => (nomatch z), fun _ => ⟨g, K _ ?_⟩⟩) (fun g => ⟨fun _ => K _ (if_neg g).symm, fun z => (nomatch z)⟩)
  unfold zN73
  rw [if_pos g, zhC_c (by omega)]
end
