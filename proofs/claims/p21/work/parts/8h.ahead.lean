/-! part 8h: the best row of acts ahead, as a function; the class finds it -/
/-- acts (-1: none yet), FURLONGS, greatest TIRED, MINUTES, the row -/
abbrev zSe : Type := Int × Int × Int × Int × (Nat → Int)
def zoff (k : Nat) (f : zS) (e : Int) (row : Nat → Int) (B : zSe) : zSe := if B.1 = -1 ∨ B.2.1 < f 5 10 ∨ (f 5 10 = B.2.1 ∧ (e < B.2.2.1 ∨ (e = B.2.2.1 ∧ f 5 11 < B.2.2.2.1))) then ((k : Int), f 5 10, e, f 5 11, fun i => if i < k then row i else 0) else B
def zlp (rec : zS → Int → (Nat → Int) → zSe → zSe) (k : Nat) (f : zS) (e : Int) (row : Nat → Int) : Nat → Nat → zSe → zSe
  | 0, _, B => B
  | j + 1, a, B => zlp rec k f e row j (a + 1) (if zmay f (a : Nat) then rec (zact f (a : Nat)) (if e < zgr (zact f (a : Nat)) (f 5 6).toNat then zgr (zact f (a : Nat)) (f 5 6).toNat else e) (fun i => if i = k then ((a : Nat) : Int) else row i) B else B)
def zlk : Nat → Nat → zS → Int → (Nat → Int) → zSe → zSe
  | 0, k, f, e, row, B => zoff k f e row B
  | n + 1, k, f, e, row, B => if f 5 10 < f 5 5 ∧ ¬ zbits f 10 = 0 then zlp (zlk n (k + 1)) k f e row 10 0 B else zoff k f e row B
def zB0 : zSe := (-1, 0, 0, 0, fun _ => 0)
def zR87 (f : zS) (n : Int) : zSe := zlk n.toNat 0 f (zgr f (f 5 6).toNat) (fun _ => 0) zB0
def zN87 (f : zS) (n w : Int) : Int := if w < -1 ∨ 6 < w then -5 else if n < 1 ∨ 4 < n then -6 else if w = -1 then (zR87 f n).1 else if w < 4 then (if w < (zR87 f n).1 then (zR87 f n).2.2.2.2 w.toNat else -5) else if w = 4 then (Int32.ofInt (zR87 f n).2.1 - Int32.ofInt (f 5 10)).toInt else if w = 5 then (zR87 f n).2.2.1 else (Int32.ofInt (zR87 f n).2.2.2.1 - Int32.ofInt (f 5 11)).toInt
theorem zoff_congr {k : Nat} {f : zS} {e : Int} {r1 r2 : Nat → Int} {B : zSe} (h : ∀ i, i < k → r1 i = r2 i) : zoff k f e r1 B = zoff k f e r2 B := by
  unfold zoff
  split
  · congr 4
    funext i
    by_cases g : i < k
    · rw [if_pos g, if_pos g, h i g]
    · rw [if_neg g, if_neg g]
  · rfl
/-- some row is found, of so many acts at most -/
def zsm (B : zSe) (K : Int) : Prop := 0 ≤ B.1 ∧ B.1 ≤ K
theorem zoff_s {k : Nat} {f : zS} {e : Int} {row : Nat → Int} {B : zSe} {K : Int} (hk : (k : Int) ≤ K) (h : B.1 = -1 ∨ zsm B K) : zsm (zoff k f e row B) K := by
  unfold zoff
  split
  · exact ⟨by show (0 : Int) ≤ (k : Int); omega, hk⟩
  · rename_i g
    exact h.resolve_left (fun z => g (Or.inl z))
theorem zlp_s {rec : zS → Int → (Nat → Int) → zSe → zSe} {k : Nat} {f : zS} {e : Int} {row : Nat → Int} {K : Int} (hr : ∀ g x r B, B.1 = -1 ∨ zsm B K → zsm (rec g x r B) K) : ∀ (j a : Nat) (B : zSe), (zsm B K ∨ (B.1 = -1 ∧ ∃ i, a ≤ i ∧ i < a + j ∧ zmay f (i : Nat))) → zsm (zlp rec k f e row j a B) K
  | 0, a, B, h => by
    rcases h with h | ⟨_, i, i1, i2, _⟩
    · exact h
    · omega
  | j + 1, a, B, h => by
    unfold zlp
    refine zlp_s hr j (a + 1) _ ?_
    by_cases m : zmay f (a : Nat)
    · rw [if_pos m]
      exact Or.inl (hr _ _ _ _ (h.elim Or.inr (fun z => Or.inl z.1)))
    · rw [if_neg m]
      rcases h with h | ⟨h, i, i1, i2, i3⟩
      · exact Or.inl h
      · refine Or.inr ⟨h, i, ?_, by omega, i3⟩
        by_cases q : i = a
        · rw [q] at i3
          exact absurd i3 m
        · omega
theorem zbits_n {f : zS} : ∀ n, (∀ a : Nat, a < n → ¬ zmay f (a : Nat)) → zbits f n = 0
  | 0, _ => rfl
  | n + 1, h => by
    unfold zbits
    rw [if_neg (h n (by omega)), zbits_n n (fun a ha => h a (by omega))]
theorem zbits_s {f : zS} (h : ¬ zbits f 10 = 0) : ∃ a : Nat, a < 10 ∧ zmay f (a : Nat) := by
  refine Decidable.byContradiction fun n => h (zbits_n 10 (fun a ha m => ?_))
  exact n ⟨a, ha, m⟩
theorem zbits_z {f : zS} (h : zbits f 10 = 0) (a : Nat) (ha : a < 10) : ¬ zmay f (a : Nat) := fun m => by
  have t := (zbits_test f a 10 ha).mpr m
  rw [h, Nat.zero_testBit] at t
  cases t
theorem zlk_s {K : Int} : ∀ (n k : Nat) {f : zS} {e : Int} {row : Nat → Int} {B : zSe}, (n + k : Nat) ≤ K → B.1 = -1 ∨ zsm B K → zsm (zlk n k f e row B) K
  | 0, k, _, _, _, _, hk, h => zoff_s (by omega) h
  | n + 1, k, f, e, row, B, hk, h => by
    unfold zlk
    split
    · rename_i g
      obtain ⟨a, a1, a2⟩ := zbits_s g.2
      exact zlp_s (fun _ _ _ _ h => zlk_s n (k + 1) (by omega) h) 10 0 B (h.elim (fun z => Or.inr ⟨z, a, by omega, by omega, a2⟩) Or.inl)
    · exact zoff_s (by omega) h
/-- nothing better can come -/
def zhop (n : Nat) (f : zS) (e : Int) (B : zSe) : Prop := ¬ B.1 = -1 ∧ (f 5 10 + n < B.2.1 ∨ (f 5 10 + n = B.2.1 ∧ B.2.2.1 < e))
theorem zoff_h {n k : Nat} {f : zS} {e : Int} {row : Nat → Int} {B : zSe} (h : zhop n f e B) : zoff k f e row B = B := by
  obtain ⟨h1, h2⟩ := h
  exact if_neg (by omega)
theorem zlp_h {rec : zS → Int → (Nat → Int) → zSe → zSe} {k : Nat} {f : zS} {e : Int} {row : Nat → Int} {B : zSe} (hr : ∀ (a : Nat) x r, e ≤ x → rec (zact f (a : Nat)) x r B = B) : ∀ (j a : Nat), zlp rec k f e row j a B = B
  | 0, _ => rfl
  | j + 1, a => by
    unfold zlp
    have q : (if zmay f (a : Nat) then rec (zact f (a : Nat)) (if e < zgr (zact f (a : Nat)) (f 5 6).toNat then zgr (zact f (a : Nat)) (f 5 6).toNat else e) (fun i => if i = k then ((a : Nat) : Int) else row i) B else B) = B := by
      split
      · exact hr a _ _ (by split <;> omega)
      · rfl
    rw [q]
    exact zlp_h hr j (a + 1)
theorem zlk_h : ∀ (n k : Nat) {f : zS} {e : Int} {row : Nat → Int} {B : zSe}, zhop n f e B → zlk n k f e row B = B
  | 0, k, _, _, _, _, h => zoff_h h
  | n + 1, k, f, e, row, B, h => by
    unfold zlk
    split
    · refine zlp_h (fun a x r hx => zlk_h n (k + 1) ⟨h.1, ?_⟩) 10 0
      have b := h.2
      have t : zact f (a : Nat) 5 10 ≤ f 5 10 + 1 := by
        rw [zact_here]
        split <;> omega
      omega
    · exact zoff_h h
section
variable {m : zf_Me}
def zRC (B : zSe) (m : zf_Me) : Prop := (B.1 = -1 → (m.1 21 5).toInt = -1) ∧ (¬ B.1 = -1 → (m.1 21 4).toInt = B.1 ∧ (m.1 21 5).toInt = B.2.1 ∧ (m.1 21 6).toInt = B.2.2.1 ∧ (m.1 21 7).toInt = B.2.2.2.1 ∧ ∀ i : Nat, i < 4 → (i : Int) < B.1 → (m.1 24 i).toInt = B.2.2.2.2 i)
theorem zRC_of {B : zSe} {m' : zf_Me} (h : zRC B m) (e1 : m'.1 21 = m.1 21) (e2 : m'.1 24 = m.1 24) : zRC B m' := by
  unfold zRC
  rw [e1, e2]
  exact h
/-- out of omega's sight -/
def zHid (p : Prop) : Prop := p
/-- walk d of the search -/
abbrev zW (d : Int32) (m : zf_Me) : zS := zv (25 + 2 * d.toInt.toNat) 3 (26 + 2 * d.toInt.toNat) m
theorem zs_16x {d w : Int32} {B : zSe} (hd : 0 ≤ d.toInt ∧ d.toInt ≤ (m.1 21 3).toInt) (hW : (m.1 21 3).toInt ≤ 4) (hB : zB (zW d m)) (hR : zRC B m) {Q : Bool → zf_Me → Prop} (ht : zhop ((m.1 21 3).toInt - d.toInt).toNat (zW d m) w.toInt B → Q true m) (hf : Q false m) : wp_16 d w m Q := by
  have b := hB.1
  have h10 : zW d m 5 10 = (m.1 (25 + 2 * d.toInt.toNat) 10).toInt := rfl
  have a := fb_addI (x := m.1 (25 + 2 * d.toInt.toNat) 10) (y := m.1 21 3) (by omega) (by omega)
  have s := fb_subI (x := m.1 (25 + 2 * d.toInt.toNat) 10 + m.1 21 3) (y := d) (by omega) (by omega)
  by_cases e : B.1 = -1
  · have r := hR.1 e
    exact ⟨by omega, fun z => by omega, fun _ => ⟨fun _ => hf, fun z => by omega⟩⟩
  · have r := hR.2 e
    have r5 := r.2.1
    have r6 := r.2.2.1
    refine ⟨by omega, fun z => ht ⟨e, Or.inl ?_⟩, fun _ => ⟨fun _ => hf, fun z => ⟨fun _ => hf, fun z2 => ht ⟨e, Or.inr ⟨?_, ?_⟩⟩⟩⟩⟩ <;> omega
theorem zs_17x {d w : Int32} {B : zSe} {row : Nat → Int} (hd : 0 ≤ d.toInt ∧ d.toInt ≤ 4) (hB : zB (zW d m)) (hR : zRC B m) (hr : ∀ i : Nat, (i : Int) < d.toInt → (m.1 23 i).toInt = row i) {Q : zf_Me → Prop} (hq : ∀ m', zfr (fun a => a = 21 ∨ a = 24) m m' → m'.1 21 3 = m.1 21 3 → zRC (zoff d.toInt.toNat (zW d m) w.toInt row B) m' → Q m') : wp_17 d w m Q := by
  have b := hB.1
  have h10 : zW d m 5 10 = (m.1 (25 + 2 * d.toInt.toNat) 10).toInt := rfl
  have h11 : zW d m 5 11 = (m.1 (25 + 2 * d.toInt.toNat) 11).toInt := rfl
  have take : (B.1 = -1 ∨ B.2.1 < zW d m 5 10 ∨ (zW d m 5 10 = B.2.1 ∧ (w.toInt < B.2.2.1 ∨ (w.toInt = B.2.2.1 ∧ zW d m 5 11 < B.2.2.2.1)))) → wq_17_72 d w m Q := by
    intro c m5 q5 m7 q7 m9 q9 m11 q11 m13 q13
    have e : zoff d.toInt.toNat (zW d m) w.toInt row B = (((d.toInt.toNat : Nat) : Int), zW d m 5 10, w.toInt, zW d m 5 11, fun i => if i < d.toInt.toNat then row i else 0) := if_pos c
    refine hq m13 ?_ ?_ ?_
    · rw [q13, q11, q9, q7, q5]
      exact zfr_cp (zfr_u (zfr_u (zfr_u (zfr_u zfr_refl (Or.inl rfl)) (Or.inl rfl)) (Or.inl rfl)) (Or.inl rfl)) (Or.inr rfl)
    · rw [q13, zf_cp1 (by decide), q11, zf_u4 (by decide), q9, zf_u4 (by decide), q7, zf_u4 (by decide), q5, zf_u4 (by decide)]
    · rw [e]
      refine ⟨fun z => absurd (show ((d.toInt.toNat : Nat) : Int) = -1 from z) (by omega), fun _ => ⟨?_, ?_, ?_, ?_, fun i i4 hi => ?_⟩⟩
      · rw [q13, zf_cp1 (by decide), q11, zf_u4 (by decide), q9, zf_u4 (by decide), q7, zf_u4 (by decide), q5, zf_u3]
        show d.toInt = ((d.toInt.toNat : Nat) : Int)
        omega
      · rw [q13, zf_cp1 (by decide), q11, zf_u4 (by decide), q9, zf_u4 (by decide), q7, zf_u3, q5, zf_u1 (by omega)]
        rfl
      · rw [q13, zf_cp1 (by decide), q11, zf_u4 (by decide), q9, zf_u3]
      · rw [q13, zf_cp1 (by decide), q11, zf_u3, q9, zf_u1 (by omega), q7, zf_u1 (by omega), q5, zf_u1 (by omega)]
        rfl
      · replace hi : (i : Int) < ((d.toInt.toNat : Nat) : Int) := hi
        show _ = if i < d.toInt.toNat then row i else 0
        rw [if_pos (by omega), q13, zf_cp2 i4, q11, zf_u1 (by decide), q9, zf_u1 (by decide), q7, zf_u1 (by decide), q5, zf_u1 (by decide)]
        exact hr i (by omega)
  have skip : ¬ (B.1 = -1 ∨ B.2.1 < zW d m 5 10 ∨ (zW d m 5 10 = B.2.1 ∧ (w.toInt < B.2.2.1 ∨ (w.toInt = B.2.2.1 ∧ zW d m 5 11 < B.2.2.2.1)))) → Q m := fun c => hq m zfr_refl rfl (by
    have e : zoff d.toInt.toNat (zW d m) w.toInt row B = B := if_neg c
    rw [e]
    exact hR)
  have t60 : ∀ (x : Bool) (u : Int32), ((x = true ∨ ¬ u.toInt = 0) ↔ (B.1 = -1 ∨ B.2.1 < zW d m 5 10 ∨ (zW d m 5 10 = B.2.1 ∧ (w.toInt < B.2.2.1 ∨ (w.toInt = B.2.2.1 ∧ zW d m 5 11 < B.2.2.2.1))))) → wq_17_60 d w (zb x) u m Q := fun x u hx => by
    cases x with
    | true => exact ⟨fun _ => take (hx.mp (Or.inl rfl)), fun z => absurd z (by decide)⟩
    | false => exact ⟨fun z => absurd rfl z, fun _ => ⟨fun z => skip (fun c => (hx.mpr c).elim (fun y => by cases y) (fun y => y z)), fun z => take (hx.mp (Or.inr z))⟩⟩
  refine ⟨by omega, zs_119 (fun x hx => ?_)⟩
  by_cases e : B.1 = -1
  · have r := hR.1 e
    have xt : x = true := hx.mpr (Or.inl (by omega))
    have all : ∀ u, wq_17_60 d w (zb x) u m Q := fun u => t60 x u (iff_of_true (Or.inl xt) (Or.inl e))
    exact ⟨fun _ => all 0, fun _ => ⟨fun _ => all 0, fun _ => ⟨fun _ => all 0, fun _ => all 1⟩⟩⟩
  · obtain ⟨-, r5, r6, r7, -⟩ := hR.2 e
    rw [r5, r6] at hx
    have e0 : (0 : Int32).toInt = 0 := rfl
    have e1 : (1 : Int32).toInt = 1 := rfl
    have cx : x = true ↔ (B.2.1 < zW d m 5 10 ∨ (zW d m 5 10 = B.2.1 ∧ w.toInt < B.2.2.1)) := by rw [h10]; exact hx
    refine ⟨fun n1 => t60 x 0 ?_, fun e1' => ⟨fun n2 => t60 x 0 ?_, fun e2' => ⟨fun g => t60 x 0 ?_, fun g => t60 x 1 ?_⟩⟩⟩
    · rw [cx]
      constructor
      · intro z
        rcases z with z | z
        · omega
        · exact absurd e0 z
      · intro z
        exact Or.inl (by omega)
    · rw [cx]
      constructor
      · intro z
        rcases z with z | z
        · omega
        · exact absurd e0 z
      · intro z
        exact Or.inl (by omega)
    · rw [cx]
      constructor
      · intro z
        rcases z with z | z
        · omega
        · exact absurd e0 z
      · intro z
        exact Or.inl (by omega)
    · exact iff_of_true (Or.inr (by rw [e1]; decide)) (Or.inr (Or.inr ⟨by omega, Or.inr ⟨by omega, by omega⟩⟩))
theorem zs_15x : ∀ (n : Nat) {d w : Int32} {m : zf_Me} {B : zSe} {row : Nat → Int} {Q : zf_Me → Prop}, 0 ≤ d.toInt ∧ d.toInt ≤ (m.1 21 3).toInt → (m.1 21 3).toInt ≤ 4 → (m.1 21 3).toInt - d.toInt < n → zB (zW d m) → zRC B m → (∀ i : Nat, (i : Int) < d.toInt → (m.1 23 i).toInt = row i) → (∀ m', zfD d.toInt m m' → m'.1 21 3 = m.1 21 3 → (∀ i : Nat, (i : Int) < d.toInt → m'.1 23 i = m.1 23 i) → zRC (zlk ((m.1 21 3).toInt - d.toInt).toNat d.toInt.toNat (zW d m) w.toInt row B) m' → Q m') → wp_15 n d w m Q := by
  intro n
  induction n with
  | zero => intro d w m B row Q h1 h2 h3; omega
  | succ n ih =>
    intro d w m B row Q h1 h2 h3 hB hR hr hq
    have e1 : (1 : Int32).toInt = 1 := rfl
    have e0 : (0 : Int32).toInt = 0 := rfl
    have b := hB.1
    have zk : ∀ mj, zfD d.toInt m mj → zW d mj = zW d m := fun mj hf => zv_of hf (by omega) (fun a _ _ => by omega) (by omega)
    -- the offer
    have off : ∀ (v4 : Int32) (mj : zf_Me), ¬ v4.toInt = 0 → zfD d.toInt m mj → mj.1 21 3 = m.1 21 3 → (∀ i : Nat, (i : Int) < d.toInt → mj.1 23 i = m.1 23 i) → zRC B mj → zlk ((m.1 21 3).toInt - d.toInt).toNat d.toInt.toNat (zW d m) w.toInt row B = zoff d.toInt.toNat (zW d m) w.toInt row B → wq_15_110 (wp_15 n) d w v4 mj Q := fun v4 mj hv hf hj hrow hRj eq => ⟨fun z => absurd z hv, fun _ => zs_17x (B := B) (row := row) (by omega) (by rw [zk mj hf]; exact hB) hRj (fun i hi => by rw [hrow i hi]; exact hr i hi) (fun m' f' k' r' => by
      rw [zk mj hf, ← eq] at r'
      exact hq m' (zfr_trans hf (zfr_mono f' (fun a ha => by omega))) (k'.trans hj) (fun i hi => by rw [f'.1 23 (by omega)]; exact hrow i hi) r')⟩
    show wb_15 (wp_15 n) d w m Q
    refine zs_16x h1 h2 hB hR (fun hop => ⟨fun z => (nomatch z), fun _ => hq m zfr_refl rfl (fun _ _ => rfl) (by rw [zlk_h _ _ hop]; exact hR)⟩) ⟨fun _ => ⟨by omega, fun ge => off 1 m (by decide) zfr_refl rfl (fun _ _ => rfl) hR (by rw [show ((m.1 21 3).toInt - d.toInt).toNat = 0 by omega]; rfl), fun lt => ?_⟩, fun z => (nomatch z)⟩
    obtain ⟨N, hN⟩ : ∃ N : Nat, ((m.1 21 3).toInt - d.toInt).toNat = N + 1 := ⟨((m.1 21 3).toInt - d.toInt).toNat - 1, by omega⟩
    have h10 : zW d m 5 10 = (m.1 (25 + 2 * d.toInt.toNat) 10).toInt := rfl
    have h5 : zW d m 5 5 = (m.1 3 4).toInt := rfl
    refine zs_47 (fun b2 hb2 => ⟨fun e => off 1 m (by decide) zfr_refl rfl (fun _ _ => rfl) hR ?_, fun e => ?_⟩)
    · rw [hN]
      exact if_neg (fun z => hb2.mp e z.1)
    have nend : zW d m 5 10 < zW d m 5 5 := Decidable.not_not.mp (zno hb2 e)
    rw [hN] at hq off
    have lp : ∀ (k : Nat) (v4 v5 : Int32) (mj : zf_Me) (Bj : zSe), 0 ≤ v5.toInt → v5.toInt ≤ 10 → 10 - v5.toInt < k → zfD d.toInt m mj → mj.1 21 3 = m.1 21 3 → (∀ i : Nat, (i : Int) < d.toInt → mj.1 23 i = m.1 23 i) → zRC Bj mj → zlp (zlk N (d.toInt.toNat + 1)) d.toInt.toNat (zW d m) w.toInt row (10 - v5.toInt).toNat v5.toInt.toNat Bj = zlp (zlk N (d.toInt.toNat + 1)) d.toInt.toNat (zW d m) w.toInt row 10 0 B → (v4.toInt = 0 → ¬ zbits (zW d m) 10 = 0) → (¬ v4.toInt = 0 → Bj = B ∧ ∀ a : Nat, (a : Int) < v5.toInt → ¬ zmay (zW d m) (a : Nat)) → wq_15_38 (wp_15 n) d w Q k v4 v5 mj := by
      intro k
      induction k with
      | zero => intro v4 v5 mj Bj k0 k1 k2; omega
      | succ k ihk =>
        intro v4 v5 mj Bj k0 k1 k2 hf hj hrow hRj hA c0 c1
        have hBj : zB (zW d mj) := by rw [zk mj hf]; exact hB
        refine ⟨fun g => ?_, fun g5 => zs_52 hBj (fun b hb => ?_)⟩
        · by_cases ev : v4.toInt = 0
          · refine ⟨fun _ => hq mj hf hj hrow ?_, fun z => absurd ev z⟩
            have e2 : zlk (N + 1) d.toInt.toNat (zW d m) w.toInt row B = zlp (zlk N (d.toInt.toNat + 1)) d.toInt.toNat (zW d m) w.toInt row 10 0 B := if_pos ⟨nend, c0 ev⟩
            rw [e2, ← hA, show (10 - v5.toInt).toNat = 0 by omega]
            exact hRj
          · have c := c1 ev
            rw [c.1] at hRj
            refine off v4 mj ev hf hj hrow hRj (if_neg (fun z => z.2 (zbits_n 10 (fun a ha => c.2 a (by omega)))))
        · rw [show zv (25 + 2 * d.toInt.toNat) 3 (26 + 2 * d.toInt.toNat) mj = zW d m from zk mj hf] at hb
          replace hb : zHid (_ ↔ zmay (zW d m) v5.toInt) := hb
          have s := fb_addI (x := v5) (y := 1) (by omega) (by omega)
          have sd := fb_addI (x := d) (y := 1) (by omega) (by omega)
          have nd : (d + 1).toInt.toNat = d.toInt.toNat + 1 := by omega
          have n5 : (v5 + 1).toInt.toNat = v5.toInt.toNat + 1 := by omega
          have i5 : ((v5.toInt.toNat : Nat) : Int) = v5.toInt := by omega
          rw [show (10 - v5.toInt).toNat = (10 - (v5 + 1).toInt).toNat + 1 by omega] at hA
          unfold zlp at hA
          rw [i5, ← n5] at hA
          refine ⟨fun eb => ?_, fun eb => ⟨by omega, fun m11 q11 => ⟨by omega, ?_⟩⟩⟩
          · have mno : zHid (¬ zmay (zW d m) v5.toInt) := zno (show _ ↔ zmay (zW d m) v5.toInt from hb) eb
            rw [if_neg (show ¬ zmay (zW d m) v5.toInt from mno)] at hA
            refine ihk _ _ mj Bj (by omega) (by omega) (by omega) hf hj hrow hRj hA c0 (fun z => ⟨(c1 z).1, fun a ha => ?_⟩)
            by_cases q : (a : Int) = v5.toInt
            · rw [q]
              exact mno
            · exact (c1 z).2 a (by omega)
          · have may : zHid (zmay (zW d m) v5.toInt) := Iff.mp (show _ ↔ zmay (zW d m) v5.toInt from hb) eb
            rw [if_pos (show zmay (zW d m) v5.toInt from may)] at hA
            have f11 : zfD d.toInt m m11 := by
              rw [q11]
              exact zfr_u hf (by omega)
            have j11 : m11.1 21 3 = m.1 21 3 := by rw [q11, zf_u1 (by decide), hj]
            have r11 : zRC Bj m11 := zRC_of hRj (by rw [q11, zf_u1 (by decide)]) (by rw [q11, zf_u1 (by decide)])
            refine zs_43s zdw (by omega) (fun m16 z16 f16 => ?_)
            have z16' : zW (d + 1) m16 = zW d m := z16.trans (zk m11 f11)
            have B16 : zB (zW (d + 1) m16) := by rw [z16']; exact hB
            refine zs_56 zdw B16 (by rw [show zv (25 + 2 * (d + 1).toInt.toNat) 3 (26 + 2 * (d + 1).toInt.toNat) m16 = zW d m from z16']; exact may) (fun m18 z18 f18 => ?_)
            have z18' : zW (d + 1) m18 = zact (zW d m) v5.toInt := by
              rw [← z16']
              exact z18
            have B18 : zB (zW (d + 1) m18) := by rw [z18']; exact zB_act hB may
            have f18' : zfD d.toInt m m18 := zfr_trans f11 (zfr_trans (zfr_mono f16 (fun a ha => by omega)) (zfr_mono f18 (fun a ha => by omega)))
            have j18 : m18.1 21 3 = m.1 21 3 := by rw [f18.1 21 (by omega), f16.1 21 (by omega), j11]
            have r18 : zRC Bj m18 := zRC_of r11 (by rw [f18.1 21 (by omega), f16.1 21 (by omega)]) (by rw [f18.1 24 (by omega), f16.1 24 (by omega)])
            have c23 : m18.1 23 = m11.1 23 := by rw [f18.1 23 (by omega), f16.1 23 (by omega)]
            have pe : (m18.1 3 5).toInt = zW d m 5 6 := by
              have : zW (d + 1) m18 5 6 = zW d m 5 6 := by rw [z18']; exact zact_people
              exact this
            refine zs_49 B18 (fun x hx => ?_)
            rw [show zv (25 + 2 * (d + 1).toInt.toNat) 3 (26 + 2 * (d + 1).toInt.toNat) m18 = zact (zW d m) v5.toInt from z18', pe] at hx
            have mx : (if w < x then x else w).toInt = if w.toInt < zgr (zact (zW d m) v5.toInt) (zW d m 5 6).toNat then zgr (zact (zW d m) v5.toInt) (zW d m 5 6).toNat else w.toInt := by
              rw [zi_max, hx]
            replace mx : zHid (_ = _) := mx
            replace hx : zHid (_ = _) := hx
            refine ih (B := Bj) (row := fun i => if i = d.toInt.toNat then v5.toInt else row i) (by rw [j18]; omega) (by rw [j18]; omega) (by rw [j18]; omega) B18 r18 (fun i hi => ?_) (fun m22 f22 j22 w22 r22 => ?_)
            · rw [c23, q11]
              by_cases q : i = d.toInt.toNat
              · rw [if_pos q, q, zf_u3]
              · rw [if_neg q, zf_u4 q, hrow i (by omega)]
                exact hr i (by omega)
            · rw [z18', show _ = _ from mx, nd, j18, show ((m.1 21 3).toInt - (d + 1).toInt).toNat = N by omega] at r22
              refine ihk _ _ m22 _ (by omega) (by omega) (by omega) (zfr_trans f18' (zfr_mono f22 (fun a ha => by omega))) (j22.trans j18) (fun i hi => ?_) r22 hA (fun _ z => zbits_z z v5.toInt.toNat (by omega) (by rw [i5]; exact may)) (fun z => absurd e0 z)
              rw [w22 i (by omega), c23, q11, zf_u4 (by omega)]
              exact hrow i hi
    exact ⟨12, lp 12 1 0 m B (by decide) (by decide) (by decide) zfr_refl rfl (fun _ _ => rfl) hR rfl (fun z => absurd z (by decide)) (fun _ => ⟨rfl, fun a ha => absurd (show (a : Int) < 0 from ha) (by omega)⟩)⟩
theorem zA_87 (hJ : JX m) {n w : Int32} {Q : Int32 → zf_Me → Prop} (K : ∀ (v : Int32) (m' : zf_Me), zq m m' → v.toInt = zN87 (zv 2 3 8 m) n.toInt w.toInt → Q v m') : wp_87 n w m Q := by
  have e4 : (4 : Int32).toInt = 4 := rfl
  have e0 : (0 : Int32).toInt = 0 := rfl
  refine ⟨fun g => zC_q (by decide) K (if_pos (Or.inl g)), fun g => ⟨fun g2 => ⟨fun g3 => zC_q (by decide) K ?_, fun g3 => ⟨fun g4 => ?_, fun g4 => zC_q (by decide) K ?_⟩⟩, fun g2 => zC_q (by decide) K (if_pos (Or.inr g2))⟩⟩
  · unfold zN87
    rw [if_neg (by omega), if_pos (Or.inl g3)]
    rfl
  · intro m1 q1 m3 q3
    have f3 : zq m m3 := by
      rw [q3, q1]
      exact zfr_u (zfr_u zfr_refl (by omega)) (by omega)
    have d3 : (m3.1 21 3).toInt = n.toInt := by
      rw [q3, zf_u4 (by decide), q1, zf_u3, zi_min, e4]
      split <;> omega
    have k3 : (m3.1 21 5).toInt = -1 := by rw [q3, zf_u3]; rfl
    have n0 : (Int32.toInt 0).toNat = 0 := rfl
    refine ⟨by decide, zs_43s (w := 25 + 2 * (Int32.toInt 0).toNat) (r := 26 + 2 * (Int32.toInt 0).toNat) zdw (by decide) (fun m8 z8 f8 => ?_)⟩
    have f8' : zq m m8 := zfr_trans f3 (zfr_mono f8 (fun a ha => by omega))
    have c21 : m8.1 21 = m3.1 21 := f8.1 21 (by decide)
    have n3 : zv 2 3 8 m3 = zv 2 3 8 m := zq_now f3
    have n8 : zv 2 3 8 m8 = zv 2 3 8 m := zq_now f8'
    have zw8 : zW 0 m8 = zv 2 3 8 m := z8.trans n3
    refine zs_49 (zs_now f8' hJ.1) (fun x hx => ⟨6, Nat.le_refl _, ?_⟩)
    have hx' : x.toInt = zgr (zv 2 3 8 m) (zv 2 3 8 m 5 6).toNat := by
      rw [hx, n8, ← n8]
      rfl
    refine zs_15x 6 (B := zB0) (row := fun _ => 0) (by rw [c21, d3]; exact ⟨by decide, by show (0 : Int) ≤ _; omega⟩) (by rw [c21, d3]; omega) (by rw [c21, d3]; show n.toInt - 0 < _; omega) (by rw [zw8]; exact hJ.1) ⟨fun _ => by rw [c21]; exact k3, fun z => absurd rfl z⟩ (fun i hi => absurd (show (i : Int) < 0 from hi) (by omega)) (fun m12 f12 _ _ r12 => ?_)
    rw [c21, d3, zw8, hx', show (n.toInt - (0 : Int32).toInt).toNat = n.toInt.toNat by rw [e0]; omega] at r12
    replace r12 : zRC (zR87 (zv 2 3 8 m) n.toInt) m12 := r12
    have F : zq m m12 := zfr_trans f8' (zfr_mono f12 (fun a ha => by omega))
    have sm : zsm (zR87 (zv 2 3 8 m) n.toInt) 4 := zlk_s _ _ (by omega) (Or.inl rfl)
    have r := r12.2 (by have := sm.1; omega)
    have k10 : m12.1 2 10 = m.1 2 10 := by rw [F.1 2 (by omega)]
    have k11 : m12.1 2 11 = m.1 2 11 := by rw [F.1 2 (by omega)]
    have A : zN87 (zv 2 3 8 m) n.toInt w.toInt = if w.toInt = -1 then (zR87 (zv 2 3 8 m) n.toInt).1 else if w.toInt < 4 then (if w.toInt < (zR87 (zv 2 3 8 m) n.toInt).1 then (zR87 (zv 2 3 8 m) n.toInt).2.2.2.2 w.toInt.toNat else -5) else if w.toInt = 4 then (Int32.ofInt (zR87 (zv 2 3 8 m) n.toInt).2.1 - Int32.ofInt (zv 2 3 8 m 5 10)).toInt else if w.toInt = 5 then (zR87 (zv 2 3 8 m) n.toInt).2.2.1 else (Int32.ofInt (zR87 (zv 2 3 8 m) n.toInt).2.2.2.1 - Int32.ofInt (zv 2 3 8 m 5 11)).toInt := by
      unfold zN87
      rw [if_neg (by omega), if_neg (by omega)]
    have ix : 0 ≤ w.toInt → w.toInt < 4 → ((w.toInt ≥ ((m12.1 21 4)).toInt → wp_109 5 m12 (fun x7 m8 => Q x7 m8)) ∧ (w.toInt < ((m12.1 21 4)).toInt → ((0 ≤ (Int32.toInt w) ∧ (Int32.toInt w) < (4 : Int)) ∧ Q (m12.1 24 (Int32.toInt w).toNat) m12))) := fun w0 w4 => by
      refine ⟨fun ge => ?_, fun lt => ⟨⟨w0, w4⟩, K _ m12 F ?_⟩⟩
      · refine zs_109 (by decide) (fun m' f => K _ m' (zfr_trans F (zfr_mono f (fun a ha => by omega))) ?_)
        rw [A, if_neg (by omega), if_pos w4, if_neg (by omega)]
        rfl
      · rw [A, if_neg (by omega), if_pos w4, if_pos (by omega)]
        exact r.2.2.2.2 _ (by omega) (by omega)
    refine ⟨fun z => by omega, fun z => K _ m12 F ?_, fun z => ix (by omega) (by omega), fun z => ix (by omega) (by omega), fun z => ix (by omega) (by omega), fun z => ix (by omega) (by omega), fun z => K _ m12 F ?_, fun z => K _ m12 F ?_, fun z => K _ m12 F ?_⟩
    · rw [A, if_pos z]
      exact r.1
    · rw [A, if_neg (by omega), if_neg (by omega), if_pos z, ← r.2.1, show zv 2 3 8 m 5 10 = (m.1 2 10).toInt from rfl, Int32.ofInt_toInt, Int32.ofInt_toInt, k10]
    · rw [A, if_neg (by omega), if_neg (by omega), if_neg (by omega), if_pos z]
      exact r.2.2.1
    · rw [A, if_neg (by omega), if_neg (by omega), if_neg (by omega), if_neg (by omega), ← r.2.2.2.1, show zv 2 3 8 m 5 11 = (m.1 2 11).toInt from rfl, Int32.ofInt_toInt, Int32.ofInt_toInt, k11]
  · unfold zN87
    rw [if_neg (by omega), if_pos (Or.inr g4)]
    rfl
end
