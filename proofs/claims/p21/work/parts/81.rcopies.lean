/-! part 81: copies from row to row, elements, what shelves hold: the reference -/
section
variable {m : zf_Me}
theorem zK_r (hJ : JM m) (ho : zso m) {s : Int32} (g : 0 ≤ s.toInt ∧ s.toInt < 8) : ((m.1 70 s.toInt.toNat).toInt = 1 → zK (zhR m) s.toInt = 0) ∧ ((m.1 70 s.toInt.toNat).toInt = 2 → zK (zhR m) s.toInt = 2) ∧ ((m.1 70 s.toInt.toNat).toInt = 0 → zK (zhR m) s.toInt = 3) := by
  have k := zhR_k hJ ho (s := s.toInt.toNat) (by omega)
  refine ⟨fun e => ?_, fun e => ?_, fun e => ?_⟩
  · exact zK_0.mpr ⟨g, (k.1 e).1⟩
  · have k2 := k.2.1 e
    unfold zK
    rw [if_neg (fun z => z g), if_neg (by omega), if_neg (by omega)]
  · have k3 := k.2.2 e
    unfold zK
    rw [if_neg (fun z => z g), if_neg (by omega), if_pos k3]
theorem zs_137x (hJ : JM m) (ho : zso m) {s : Int32} {Q : Int32 → zf_Me → Prop} (hq : ∀ x : Int32, x.toInt = -(zK (zhR m) s.toInt) → Q x m) : wp_137 s m Q := by
  refine zs_127 (fun g => ?_) (fun g => ⟨fun z => (nomatch z), fun _ => hq (-1) (by rw [zK_1.mpr g]; rfl)⟩)
  have k := zK_r hJ ho g
  have b := (hJ.2.1 s.toInt.toNat (by omega)).1
  refine ⟨fun _ => ⟨g, fun n2 => ⟨g, fun n0 => hq 0 (by rw [k.1 (by omega)]; rfl), fun e => hq (-3) (by rw [k.2.2 e]; rfl)⟩, fun e => hq (-2) (by rw [k.2.1 e]; rfl)⟩, fun z => (nomatch z)⟩
theorem zl_132 {p q i j n : Int32} (gp : 0 ≤ p.toInt ∧ p.toInt < 8) (gq : 0 ≤ q.toInt ∧ q.toInt < 8) (hi : 0 ≤ i.toInt) (hj : 0 ≤ j.toInt) (hn : 0 ≤ n.toInt) (h1 : i.toInt + n.toInt ≤ 160) (h2 : j.toInt + n.toInt ≤ 160) {Q : Int32 → zf_Me → Prop} (K : ∀ m', m'.1 = m.1 → (∀ a, a < 63 → m'.2 a = m.2 a) → (∀ x, m'.2 74 x = if 160 * q.toInt.toNat + j.toInt.toNat ≤ x ∧ x < 160 * q.toInt.toNat + j.toInt.toNat + n.toInt.toNat then m.2 74 (160 * p.toInt.toNat + i.toInt.toNat + (x - (160 * q.toInt.toNat + j.toInt.toNat))) else m.2 74 x) → Q 1 m') : ∃ n167, wq_132_167 p q i j n Q n167 0 m := by
  have e1 : (1 : Int32).toInt = 1 := rfl
  have tp := zix (s := p) (i := i) gp (by omega)
  have tq := zix (s := q) (i := j) gq (by omega)
  have lp2 : ∀ (k : Nat) (v : Int32) (mj : zf_Me), 0 ≤ v.toInt → v.toInt ≤ n.toInt → n.toInt - v.toInt < k → mj.1 = m.1 → (∀ a, a < 63 → mj.2 a = m.2 a) → (∀ l : Nat, (l : Int) < n.toInt → mj.2 75 l = m.2 74 (160 * p.toInt.toNat + i.toInt.toNat + l)) → (∀ x, mj.2 74 x = if 160 * q.toInt.toNat + j.toInt.toNat ≤ x ∧ x < 160 * q.toInt.toNat + j.toInt.toNat + v.toInt.toNat then m.2 74 (160 * p.toInt.toNat + i.toInt.toNat + (x - (160 * q.toInt.toNat + j.toInt.toNat))) else m.2 74 x) → wq_132_205 p q i j n Q k v mj := by
    intro k
    induction k with
    | zero => intro v mj k0 k1 k2; omega
    | succ k ih =>
      intro v mj k0 k1 k2 f1 f2 f3 f4
      refine ⟨fun g => K mj f1 f2 (fun x => ?_), fun g => ?_⟩
      · rw [f4 x, show v.toInt.toNat = n.toInt.toNat by omega]
      · have t := fb_addI (x := 160 * q + j) (y := v) (by omega) (by omega)
        have t2 := fb_addI (x := v) (y := 1) (by omega) (by omega)
        have ei : (160 * q + j + v).toInt.toNat = 160 * q.toInt.toNat + j.toInt.toNat + v.toInt.toNat := by omega
        have ev : (v + 1).toInt.toNat = v.toInt.toNat + 1 := by omega
        refine ⟨by omega, ⟨by omega, by omega⟩, fun m19 q19 => ih _ m19 (by omega) (by omega) (by omega) (by rw [q19]; exact f1) (fun a ha => ?_) (fun l hl => ?_) (fun x => ?_)⟩
        · rw [q19]
          exact (if_neg (by omega)).trans (f2 a ha)
        · rw [q19]
          exact f3 l hl
        · rw [q19, ei, ev]
          by_cases ee : x = 160 * q.toInt.toNat + j.toInt.toNat + v.toInt.toNat
          · rw [ee, zf_ul3, f3 _ (by omega), if_pos (by omega)]
            exact congrArg (m.2 74) (by omega)
          · rw [zf_ul4 ee, f4 x]
            by_cases g2 : 160 * q.toInt.toNat + j.toInt.toNat ≤ x ∧ x < 160 * q.toInt.toNat + j.toInt.toNat + v.toInt.toNat
            · rw [if_pos g2, if_pos (by omega)]
            · rw [if_neg g2, if_neg (by omega)]
  have lp1 : ∀ (k : Nat) (v : Int32) (mj : zf_Me), 0 ≤ v.toInt → v.toInt ≤ n.toInt → n.toInt - v.toInt < k → mj.1 = m.1 → (∀ a, ¬ a = 75 → mj.2 a = m.2 a) → (∀ l : Nat, (l : Int) < v.toInt → mj.2 75 l = m.2 74 (160 * p.toInt.toNat + i.toInt.toNat + l)) → wq_132_167 p q i j n Q k v mj := by
    intro k
    induction k with
    | zero => intro v mj k0 k1 k2; omega
    | succ k ih =>
      intro v mj k0 k1 k2 f1 f2 f3
      refine ⟨fun g => ⟨162, lp2 162 0 mj (by decide) hn (by show n.toInt - 0 < 162; omega) f1 (fun a ha => f2 a (by omega)) (fun l hl => f3 l (by omega)) (fun x => ?_)⟩, fun g => ?_⟩
      · rw [f2 74 (by decide), if_neg (by show ¬ (_ ∧ _ < _ + 0); omega)]
      · have t := fb_addI (x := 160 * p + i) (y := v) (by omega) (by omega)
        have t2 := fb_addI (x := v) (y := 1) (by omega) (by omega)
        have ei : (160 * p + i + v).toInt.toNat = 160 * p.toInt.toNat + i.toInt.toNat + v.toInt.toNat := by omega
        refine ⟨⟨by omega, by omega⟩, by omega, fun m21 q21 => ih _ m21 (by omega) (by omega) (by omega) (by rw [q21]; exact f1) (fun a ha => ?_) (fun l hl => ?_)⟩
        · rw [q21]
          exact (if_neg ha).trans (f2 a ha)
        · rw [q21, ei]
          by_cases ee : l = v.toInt.toNat
          · rw [ee, zf_ul3, f2 74 (by decide)]
          · rw [zf_ul4 ee]
            exact f3 l (by omega)
  exact ⟨162, lp1 162 0 m (by decide) hn (by show n.toInt - 0 < 162; omega) rfl (fun _ _ => rfl) (fun l hl => absurd (show (l : Int) < 0 from hl) (by omega))⟩
theorem zY_132 (hJ : JM m) (ho : zso m) {p q i j n : Int32} {Q : Int32 → zf_Me → Prop} (K : ∀ v m', (zgQ m m' ∧ zr m' = zr m ∨ zgH m m' ∧ zsR m' ∧ zso m') → v.toInt = (zN70 (zhR m) p.toInt q.toInt i.toInt j.toInt n.toInt).1 → zhR m' = (zN70 (zhR m) p.toInt q.toInt i.toInt j.toInt n.toInt).2 → Q v m') : wp_132 p q i j n m Q := by
  have no := fun {w : Int32} (hw : -8 < w.toInt ∧ w.toInt ≤ 0) (e : zN70 (zhR m) p.toInt q.toInt i.toInt j.toInt n.toInt = (w.toInt, zhR m)) => zR_noh (m := m) (Q := Q) hw K (fun m' => zhR_q) e
  have c : ∀ {w : Int}, ¬ w = 0 → zN112 (zhR m) p.toInt q.toInt = w → zN70 (zhR m) p.toInt q.toInt i.toInt j.toInt n.toInt = (-w, zhR m) := fun h e => by unfold zN70; rw [e, if_pos h]
  have one : zK (zhR m) p.toInt = 1 ∨ zK (zhR m) q.toInt = 1 → wp_125 (-1) m (fun x m' => Q x m') := fun g => no (by decide) (c (w := 1) (by decide) (if_pos g))
  refine zs_127 (fun gp => ⟨fun z => (nomatch z), fun _ => zs_127 (fun gq => ⟨fun _ => ?_, fun z => (nomatch z)⟩) (fun gq => ⟨fun z => (nomatch z), fun _ => one (Or.inr (zK_1.mpr gq))⟩)⟩) (fun gp => ⟨fun _ => one (Or.inl (zK_1.mpr gp)), fun z => (nomatch z)⟩)
  have kp := zK_r hJ ho gp
  have kq := zK_r hJ ho gq
  have bp := hJ.2.1 p.toInt.toNat (by omega)
  have bq := hJ.2.1 q.toInt.toNat (by omega)
  have n1 : ¬ (zK (zhR m) p.toInt = 1 ∨ zK (zhR m) q.toInt = 1) := fun z => z.elim (fun z => zK_1.mp z gp) (fun z => zK_1.mp z gq)
  have two : zK (zhR m) p.toInt = 2 ∨ zK (zhR m) q.toInt = 2 → wp_125 (-2) m (fun x m' => Q x m') := fun g => no (by decide) (c (w := 2) (by decide) (by unfold zN112; rw [if_neg n1, if_pos g]))
  have rp := zhR_k hJ ho (s := p.toInt.toNat) (by omega)
  have rq := zhR_k hJ ho (s := q.toInt.toNat) (by omega)
  have t84 : ¬ (m.1 70 p.toInt.toNat).toInt = 2 → ¬ (m.1 70 q.toInt.toNat).toInt = 2 → ((m.1 70 p.toInt.toNat).toInt = 1 → (m.1 70 q.toInt.toNat).toInt = 1 → (m.1 71 p.toInt.toNat).toInt = (m.1 71 q.toInt.toNat).toInt) → wq_132_84 p q i j n m Q := by
    intro a1 a2 a3
    have n2 : ¬ (zK (zhR m) p.toInt = 2 ∨ zK (zhR m) q.toInt = 2) := by
      have p1 : ¬ zK (zhR m) p.toInt = 2 := by
        by_cases e : (m.1 70 p.toInt.toNat).toInt = 1
        · rw [kp.1 e]; decide
        · rw [kp.2.2 (by omega)]; decide
      have p2 : ¬ zK (zhR m) q.toInt = 2 := by
        by_cases e : (m.1 70 q.toInt.toNat).toInt = 1
        · rw [kq.1 e]; decide
        · rw [kq.2.2 (by omega)]; decide
      exact fun z => z.elim p1 p2
    have tri : zK (zhR m) p.toInt = 3 ∨ zK (zhR m) q.toInt = 3 → wp_125 (-3) m (fun x m' => Q x m') := fun g => no (by decide) (c (w := 3) (by decide) (by unfold zN112; rw [if_neg n1, if_neg n2, if_pos g]))
    refine ⟨gp, fun z => tri (Or.inl (kp.2.2 z)), fun zp => ⟨gq, fun zq => ?_, fun z => tri (Or.inr (kq.2.2 z))⟩⟩
    have hp : (m.1 70 p.toInt.toNat).toInt = 1 := by omega
    have hq : (m.1 70 q.toInt.toNat).toInt = 1 := by omega
    have so := a3 hp hq
    have vp := rp.1 hp
    have vq := rq.1 hq
    have z0 : zN112 (zhR m) p.toInt q.toInt = 0 := by
      unfold zN112
      rw [if_neg n1, if_neg n2, if_neg (by rw [kp.1 hp, kq.1 hq]; decide), if_pos (by rw [vp.2.2.1, vq.2.2.1, so])]
    have N0 : ¬ (¬ zN112 (zhR m) p.toInt q.toInt = 0) := fun z => z z0
    have five : 0 ≤ n.toInt → (i.toInt < 0 ∨ j.toInt < 0 ∨ (m.1 72 p.toInt.toNat).toInt < i.toInt + n.toInt ∨ (m.1 72 q.toInt.toNat).toInt < j.toInt + n.toInt) → wp_125 (-5) m (fun x m' => Q x m') := fun g0 g => no (by decide) (by unfold zN70; rw [if_neg N0, if_neg (by omega), if_pos (by rw [vp.2.1, vq.2.1]; exact g)]; rfl)
    refine ⟨fun g0 => ⟨fun g => five g0 (Or.inl g), fun gi => ⟨fun g => five g0 (Or.inr (Or.inl g)), fun gj => ⟨gp, ?_⟩⟩⟩, fun g => no (by decide) (by unfold zN70; rw [if_neg N0, if_pos g]; rfl)⟩
    have rn := fb_rng n
    have sp := fb_subI (x := m.1 72 p.toInt.toNat) (y := n) (by omega) (by omega)
    have sq := fb_subI (x := m.1 72 q.toInt.toNat) (y := n) (by omega) (by omega)
    refine ⟨fun g => five g0 (Or.inr (Or.inr (Or.inl (by omega)))), fun l1 => ⟨gq, fun l2 => ?_, fun g => five g0 (Or.inr (Or.inr (Or.inr (by omega))))⟩⟩
    refine zl_132 gp gq (by omega) (by omega) g0 (by omega) (by omega) (fun m' f1 f2 f3 => ?_)
    have r : zN70 (zhR m) p.toInt q.toInt i.toInt j.toInt n.toInt = (1, zput (zhR m) q.toInt.toNat (zcpy (zhR m p.toInt.toNat) (zhR m q.toInt.toNat) i.toInt.toNat j.toInt.toNat n.toInt.toNat)) := by
      unfold zN70
      rw [if_neg N0, if_neg (by omega), if_neg (by rw [vp.2.1, vq.2.1]; omega)]
    refine K 1 m' (Or.inr ⟨⟨fun a _ => by rw [f1], f2⟩, by unfold zsR; rw [f1]; exact hJ.2.1, by unfold zso; rw [f1]; exact ho⟩) (by rw [r]; rfl) ?_
    rw [r]
    show zhR m' = zput (zhR m) q.toInt.toNat _
    rw [zhR_put (m := m) (m' := m') (s := q.toInt.toNat) (by omega) (fun k hk hne => ⟨by rw [f1], by rw [f1], by rw [f1], by rw [f1], fun x hx => by rw [f3, if_neg (by omega)]⟩) hJ.2.1]
    congr 1
    rw [f1]
    have cz : zcode (m.1 70 q.toInt.toNat).toInt (m.1 71 q.toInt.toNat).toInt (m.1 73 q.toInt.toNat).toInt = 100 + (m.1 71 q.toInt.toNat).toInt := if_pos hq
    rw [cz]
    have oq := ho q.toInt.toNat (by omega) hq
    unfold zcpy
    rw [vq.2.2.1, vq.2.1]
    refine (if_pos (by omega) : znorm _ _ _ = _).trans ?_
    congr 2
    funext k
    by_cases lk : (k : Int) < (m.1 72 q.toInt.toNat).toInt
    · rw [if_pos lk, f3]
      by_cases g : j.toInt.toNat ≤ k ∧ k < j.toInt.toNat + n.toInt.toNat
      · rw [if_pos g, if_pos (by omega), vp.2.2.2 _ (by omega)]
        exact congrArg (m.2 74) (by omega)
      · rw [if_neg g, if_neg (by omega), vq.2.2.2 _ lk]
    · rw [if_neg lk, if_neg (by omega)]
      have a := zhR_at (m := m) (s := q.toInt.toNat) (by omega)
      rw [cz] at a
      rw [a]
      unfold znorm
      rw [if_pos (by omega)]
      exact (if_neg lk).symm
  refine ⟨gp, fun e => two (Or.inl (kp.2.1 e)), fun np => ⟨gq, fun e => two (Or.inr (kq.2.1 e)), fun nq => ⟨gp, fun n1' => t84 np nq (fun z => absurd z n1'), fun e1 => ⟨gq, fun n2' => t84 np nq (fun _ z => absurd z n2'), fun e2 => ⟨gp, gq, fun so => t84 np nq (fun _ _ => so), fun ne => no (by decide) (c (w := 2) (by decide) ?_)⟩⟩⟩⟩⟩
  have vp := rp.1 e1
  have vq := rq.1 e2
  unfold zN112
  rw [if_neg n1, if_neg (by rw [kp.1 e1, kq.1 e2]; decide), if_neg (by rw [kp.1 e1, kq.1 e2]; decide), if_neg (by rw [vp.2.2.1, vq.2.2.1]; omega)]
theorem zY_133 (hJ : JM m) (ho : zso m) {s i : Int32} {Q : Int64 → zf_Me → Prop} (K : Q (zN71 (zhR m) s.toInt i.toInt) m) : wp_133 s i m Q := by
  have zero : ¬ ((0 ≤ s.toInt ∧ s.toInt < 8) ∧ 100 ≤ (zhR m s.toInt.toNat).1 ∧ 0 ≤ i.toInt ∧ i.toInt < (zhR m s.toInt.toNat).2.1) → Q 0 m := fun g => by
    have : zN71 (zhR m) s.toInt i.toInt = 0 := if_neg g
    rw [this] at K
    exact K
  refine zs_127 (fun g => ⟨fun z => (nomatch z), fun _ => ⟨g, fun n1 => zero (fun z => ?_), fun e1 => ?_⟩⟩) (fun g => ⟨fun _ => zero (fun z => g z.1), fun z => (nomatch z)⟩)
  · have k := zhR_k hJ ho (s := s.toInt.toNat) (by omega)
    have b := hJ.2.1 s.toInt.toNat (by omega)
    have z2 := z.2.1
    by_cases e2 : (m.1 70 s.toInt.toNat).toInt = 2
    · have := k.2.1 e2
      omega
    · have := k.2.2 (by omega)
      omega
  · have k := (zhR_k hJ ho (s := s.toInt.toNat) (by omega)).1 e1
    have b := hJ.2.1 s.toInt.toNat (by omega)
    refine ⟨fun g1 => zero (fun z => by have := z.2.2.1; omega), fun g1 => ⟨g, fun g2 => zero (fun z => by have := z.2.2.2; rw [k.2.1] at this; omega), fun g2 => ?_⟩⟩
    have t := zix (s := s) (i := i) g (by omega)
    refine ⟨by omega, ?_⟩
    have : zN71 (zhR m) s.toInt i.toInt = m.2 74 (160 * s + i).toInt.toNat := by
      unfold zN71
      rw [if_pos ⟨g, k.1, g1, by rw [k.2.1]; exact g2⟩, k.2.2.2 _ (by omega)]
      exact congrArg (m.2 74) (by omega)
    rw [this] at K
    exact K
theorem zY_135 (hJ : JM m) (ho : zso m) {s : Int32} {Q : Int32 → zf_Me → Prop} (K : ∀ v : Int32, v.toInt = zN73 (zhR m) s.toInt → Q v m) : wp_135 s m Q := by
  refine zs_127 (fun g => ⟨fun z => (nomatch z), fun _ => ?_⟩) (fun g => ⟨fun _ => K _ (if_neg g).symm, fun z => (nomatch z)⟩)
  have k := zhR_k hJ ho (s := s.toInt.toNat) (by omega)
  have b := hJ.2.1 s.toInt.toNat (by omega)
  have e100 : (100 : Int32).toInt = 100 := rfl
  have v : zN73 (zhR m) s.toInt = (zhR m s.toInt.toNat).1 := if_pos g
  refine ⟨g, fun n0 => ⟨g, fun n1 => ⟨g, K _ ?_⟩, fun e1 => ⟨g, K _ ?_⟩⟩, fun e0 => K _ ?_⟩
  · rw [v, (k.2.1 (by omega)).1]
  · have o := ho s.toInt.toNat (by omega) e1
    rw [v, (k.1 e1).2.2.1, fb_addI (by omega) (by omega), e100]
  · rw [v, k.2.2 e0]
    rfl
end
