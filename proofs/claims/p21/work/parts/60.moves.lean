/-! part 60: the moves of the class: laid by wip/flat/w60.py -/
def zbd (k v : Nat) : Nat := [10, 11, 12, 20, 0, 0, 0, 30, 0, 0, 40, 0, 51, 0, 50, 0, 0, 60, 70, 71, 0].getD (3 * k + v) 0
def zab (k : Nat) : Nat := [7, 0, 0, 1, 0, 2, 4].getD k 7
def zat (v : Nat) : Nat → Nat → Nat
  | 0, k => k
  | j + 1, k => if zbd k v = 0 then zat v j (zab k) else k
abbrev zMv : Type := Option (Int32 × List Nat)
def zfb (rec : Nat → Nat → Int32 → zMv) (own : Nat) (num tra : Int32) (a b : Nat) (x : Int32) : zMv :=
  if b = 10 then some (x + num, [10])
  else if b = 11 then (rec own 0 x).map (fun r => (r.1 * 2, 11 :: r.2))
  else if b = 12 then (rec own 1 x).bind (fun r => (rec own 0 (x - tra)).map (fun q => (r.1 ^^^ q.1, 12 :: (r.2 ++ q.2))))
  else if b = 20 then (rec (zab a) 0 x).map (fun r => (r.1 + tra, 20 :: r.2))
  else if b = 30 then (rec (zab a) 1 x).map (fun r => (r.1 * 3, 30 :: r.2))
  else if b = 40 then (rec (zab a) 1 (x + 1)).map (fun r => (r.1, 40 :: r.2))
  else if b = 50 then (rec (zab a) 2 x).map (fun r => (-r.1, 50 :: r.2))
  else if b = 51 then (rec (zab a) 0 x).map (fun r => (r.1 - num, 51 :: r.2))
  else if b = 60 then (rec (zab a) 2 x).map (fun r => (r.1 ^^^ 5, 60 :: r.2))
  else if b = 70 then (rec (zab a) 0 x).map (fun r => (r.1 * 2, 70 :: r.2))
  else (rec (zab a) 1 (x - tra)).map (fun r => (r.1, 71 :: r.2))
def zfrm (own : Nat) (num tra : Int32) : Nat → Nat → Nat → Int32 → zMv
  | 0, _, _, _ => none
  | n + 1, k, v, x => zfb (zfrm own num tra n) own num tra (zat v 7 k) (zbd (zat v 7 k) v) x
def zpu (m : zf_Me) (b : Nat) : zf_Me := if (m.1 44 1).toInt < 20 then zf_u (zf_u m 45 (m.1 44 1).toInt.toNat (Int32.ofNat b)) 44 1 (m.1 44 1 + 1) else zf_u m 44 1 (m.1 44 1 + 1)
def zpus (m : zf_Me) (l : List Nat) : zf_Me := l.foldl zpu m
theorem zpu_k {m : zf_Me} {b k : Nat} (h : ¬ k = 1) : (zpu m b).1 44 k = m.1 44 k := by
  unfold zpu
  split
  · rw [zf_u4 h, zf_u1 (by decide)]
  · rw [zf_u4 h]
theorem zpu_r {m : zf_Me} {b : Nat} : (zpu m b).1 44 1 = m.1 44 1 + 1 := by
  unfold zpu
  split
  · rw [zf_u3]
  · rw [zf_u3]
theorem zpu_f {m : zf_Me} {b : Nat} : zfr (fun a => a = 44 ∨ a = 45) m (zpu m b) := by
  unfold zpu
  split
  · exact zfr_u (zfr_u zfr_refl (Or.inr rfl)) (Or.inl rfl)
  · exact zfr_u zfr_refl (Or.inl rfl)
theorem zpus_k : ∀ (l : List Nat) {m : zf_Me} {k : Nat}, ¬ k = 1 → (zpus m l).1 44 k = m.1 44 k
  | [], _, _, _ => rfl
  | b :: l, m, k, h => by
    show (zpus (zpu m b) l).1 44 k = _
    rw [zpus_k l h, zpu_k h]
theorem zpus_f : ∀ (l : List Nat) {m : zf_Me}, zfr (fun a => a = 44 ∨ a = 45) m (zpus m l)
  | [], _ => zfr_refl
  | b :: l, m => zfr_trans zpu_f (zpus_f l)
theorem zpus_r : ∀ (l : List Nat) {m : zf_Me}, 0 ≤ (m.1 44 1).toInt → (m.1 44 1).toInt + l.length ≤ 1000000 → ((zpus m l).1 44 1).toInt = (m.1 44 1).toInt + l.length
  | [], m, _, _ => (Int.add_zero _).symm
  | b :: l, m, h0, h => by
    have e1 : (1 : Int32).toInt = 1 := rfl
    have hl : ((b :: l).length : Int) = l.length + 1 := rfl
    have s := fb_addI (x := m.1 44 1) (y := 1) (by omega) (by omega)
    show ((zpus (zpu m b) l).1 44 1).toInt = _
    have r : (zpu m b).1 44 1 = m.1 44 1 + 1 := zpu_r
    rw [zpus_r l (by rw [r]; omega) (by rw [r]; omega), r, s]
    omega
theorem zpus_app {m : zf_Me} {l l2 : List Nat} : zpus m (l ++ l2) = zpus (zpus m l) l2 := List.foldl_append
theorem ztb : ∀ k, k < 7 → ∀ v, v < 3 → ((Int32.ofNat k) * 3 + Int32.ofNat v).toInt = 3 * k + v ∧ ((Int32.ofNat k) * 3 + Int32.ofNat v).toInt.toNat = 3 * k + v ∧ (zx_sa.getD 4 []).getD (3 * k + v) 0 = Int32.ofNat (zbd k v) ∧ ((Int32.ofNat (zbd k v)).toInt = 0 ↔ zbd k v = 0) ∧ (zbd k v = 0 → zab k < 7 ∧ (zx_sa.getD 0 []).getD k 0 = Int32.ofNat (zab k)) ∧ (Int32.ofNat k).toInt = k := by decide +kernel
theorem zat_lt (v : Nat) (hv : v < 3) : ∀ j k, k < 7 → zat v j k < 7
  | 0, _, h => h
  | j + 1, k, h => by
    unfold zat
    split
    · rename_i g
      exact zat_lt v hv j (zab k) ((ztb k h v hv).2.2.2.2.1 g).1
    · exact h
section
variable {R : Int32 → Int32 → Int32 → Int32 → zf_Me → (Int32 → zf_Me → Prop) → Prop} {Q : Int32 → zf_Me → Prop} {m : zf_Me}
theorem zmv_6 {v : Nat} (hv : v < 3) {v1 x d : Int32} : ∀ (j fuel k : Nat) (v6 : Int32), k < 7 → j ≤ 7 → j < fuel → v6.toInt + j = 7 → wq_4_48 R v1 (Int32.ofNat v) x d (Int32.ofNat (zat v j k)) m Q → wq_4_6 R v1 (Int32.ofNat v) x d Q fuel (Int32.ofNat k) v6 m := by
  intro j
  induction j with
  | zero =>
    intro fuel k v6 hk hj hf h6 h
    obtain ⟨f, rfl⟩ : ∃ f, fuel = f + 1 := ⟨fuel - 1, by omega⟩
    exact ⟨fun _ => h, fun z => by omega⟩
  | succ j ih =>
    intro fuel k v6 hk hj hf h6 h
    obtain ⟨f, rfl⟩ : ∃ f, fuel = f + 1 := ⟨fuel - 1, by omega⟩
    have e1 : (1 : Int32).toInt = 1 := rfl
    have t := ztb k hk v hv
    have s := fb_addI (x := v6) (y := 1) (by omega) (by omega)
    refine ⟨fun z => by omega, fun _ => zs_115 (fun g => ⟨fun z => (nomatch z), fun _ => ⟨by omega, fun g2 => ?_, fun g2 => ?_⟩⟩) (fun g => absurd (by omega) g)⟩
    · rw [t.2.1, t.2.2.1] at g2
      unfold zat at h
      rw [if_neg (fun z => g2 (t.2.2.2.1.mpr z))] at h
      exact h
    · rw [t.2.1, t.2.2.1] at g2
      have z := t.2.2.2.1.mp g2
      have u := t.2.2.2.2.1 z
      unfold zat at h
      rw [if_pos z] at h
      refine ⟨g, ?_⟩
      rw [show (Int32.ofNat k).toInt.toNat = k by omega, u.2]
      exact ih f (zab k) _ u.1 (by omega) (by omega) (by omega) h
theorem zmv_48 {v a : Nat} (hv : v < 3) (ha : a < 7) {v1 x d : Int32} (hd : d.toInt ≤ 40) (hr : 0 ≤ (m.1 44 1).toInt) (h : wp_5 R (Int32.ofNat (zbd a v)) ((zx_sa.getD 0 []).getD a 0) x (d + 1) (zpu m (zbd a v)) Q) : wq_4_48 R v1 (Int32.ofNat v) x d (Int32.ofNat a) m Q := by
  have t := ztb a ha v hv
  have c : ∀ (mj : zf_Me), zf_u mj 44 1 (mj.1 44 1 + 1) = zpu m (zbd a v) → wq_4_97 R v1 (Int32.ofNat v) x d (Int32.ofNat a) (Int32.ofNat (zbd a v)) mj Q := fun mj hj m3 q3 => by
    refine ⟨by omega, ?_⟩
    rw [show (Int32.ofNat a).toInt.toNat = a by omega, q3, hj]
    exact h
  refine zs_115 (fun g => ⟨fun z => (nomatch z), fun _ => ⟨fun _ => ⟨by omega, fun g2 => ?_, fun g2 => ⟨⟨hr, g2⟩, fun m7 q7 => ?_⟩⟩, fun z => by omega⟩⟩) (fun g => absurd (by omega) g)
  · rw [t.2.1, t.2.2.1]
    refine c m ?_
    unfold zpu
    rw [if_neg (by omega)]
  · rw [t.2.1, t.2.2.1] at q7
    rw [t.2.1, t.2.2.1]
    refine c m7 ?_
    unfold zpu
    rw [if_pos g2, q7, zf_u1 (by decide)]
end
theorem zwhere : ∀ a, a < 7 → ∀ v, v < 3 → zbd a v = 0 ∨ 3 * a + v ∈ [0, 1, 2, 3, 7, 10, 12, 14, 17, 18, 19] := by decide
theorem znz : ∀ k, k < 7 → ∀ v, v < 3 → zbd (zat v 7 k) v ≠ 0 := by decide
/-- from a kind on, a move: its answer, its bodies -/
theorem zmv_4 {own : Nat} (ho : own < 7) {num tra : Int32} : ∀ (n : Nat) {k v : Nat} {x d r : Int32} {l : List Nat} {m : zf_Me} {Q : Int32 → zf_Me → Prop}, k < 7 → v < 3 → 0 ≤ d.toInt → d.toInt + n ≤ 41 → m.1 44 2 = Int32.ofNat own → m.1 44 3 = num → m.1 44 4 = tra → zbd (zat v 7 k) v ≠ 0 → zfrm own num tra n k v x = some (r, l) → 0 ≤ (m.1 44 1).toInt → (m.1 44 1).toInt + l.length ≤ 1000000 → Q r (zpus m l) → wp_4 n (Int32.ofNat k) (Int32.ofNat v) x d m Q := by
  intro n
  induction n with
  | zero =>
    intro k v x d r l m Q _ _ _ _ _ _ _ _ h
    cases h
  | succ n ih =>
    intro k v x d r l m Q hk hv hd hdn o2 o3 o4 hnz h hr hl hq
    have e1 : (1 : Int32).toInt = 1 := rfl
    show wb_4 (wp_4 n) (Int32.ofNat k) (Int32.ofNat v) x d m Q
    refine ⟨8, zmv_6 hv 7 8 k 0 hk (by decide) (by decide) (by decide) (zmv_48 hv (zat_lt v hv 7 k hk) (by omega) hr ?_)⟩
    have sd := fb_addI (x := d) (y := 1) (by omega) (by omega)
    replace h : zfb (zfrm own num tra n) own num tra (zat v 7 k) (zbd (zat v 7 k) v) x = some (r, l) := h
    obtain ⟨a, ha⟩ : ∃ a, a = zat v 7 k := ⟨_, rfl⟩
    have ha7 : a < 7 := by rw [ha]; exact zat_lt v hv 7 k hk
    rw [← ha] at h hnz ⊢
    -- what a deeper one leaves
    have go : ∀ {k2 v2 : Nat} {x2 r2 : Int32} {l2 : List Nat} {mj : zf_Me} {Q2 : Int32 → zf_Me → Prop}, k2 < 7 → v2 < 3 → mj.1 44 2 = Int32.ofNat own → mj.1 44 3 = num → mj.1 44 4 = tra → zfrm own num tra n k2 v2 x2 = some (r2, l2) → 0 ≤ (mj.1 44 1).toInt → (mj.1 44 1).toInt + l2.length ≤ 1000000 → Q2 r2 (zpus mj l2) → wp_4 n (Int32.ofNat k2) (Int32.ofNat v2) x2 (d + 1) mj Q2 := by
      intro k2 v2 x2 r2 l2 mj Q2 h1 h2 h3 h4 h5 h6 h7 h8 h9
      refine ih h1 h2 (by omega) (by omega) h3 h4 h5 ?_ h6 h7 h8 h9
      exact znz k2 h1 v2 h2
    have pr : ∀ b, (zpu m b).1 44 1 = m.1 44 1 + 1 := fun b => zpu_r
    have pi : ∀ (b : Nat) {l2 : List Nat}, l.length = l2.length + 1 → 0 ≤ ((zpu m b).1 44 1).toInt ∧ ((zpu m b).1 44 1).toInt + l2.length ≤ 1000000 := fun b l2 hl2 => by
      have s1 := fb_addI (x := m.1 44 1) (y := 1) (by omega) (by omega)
      rw [pr b, s1]
      omega
    have k2 : ∀ b, (zpu m b).1 44 2 = Int32.ofNat own := fun b => (zpu_k (by decide)).trans o2
    have k3 : ∀ b, (zpu m b).1 44 3 = num := fun b => (zpu_k (by decide)).trans o3
    have k4 : ∀ b, (zpu m b).1 44 4 = tra := fun b => (zpu_k (by decide)).trans o4
    have wh := (zwhere a ha7 v hv).resolve_left hnz
    simp only [List.mem_cons, List.not_mem_nil, or_false] at wh
    rcases wh with wh | wh | wh | wh | wh | wh | wh | wh | wh | wh | wh
    · obtain ⟨rfl, rfl⟩ : a = 0 ∧ v = 0 := by omega
      replace h : some (x + num, [10]) = some (r, l) := h
      cases h
      have q : Q (x + (zpu m 10).1 44 3) (zpu m 10) := by rw [k3 10]; exact hq
      exact ⟨fun _ => q, fun z => absurd z (by decide), fun z => absurd z (by decide), fun z => absurd z (by decide), fun z => absurd z (by decide), fun z => absurd z (by decide), fun z => absurd z (by decide), fun z => absurd z (by decide), fun z => absurd z (by decide), fun z => absurd z (by decide), fun z => absurd rfl z.1⟩
    · obtain ⟨rfl, rfl⟩ : a = 0 ∧ v = 1 := by omega
      replace h : (zfrm own num tra n own 0 x).map (fun r => (r.1 * 2, 11 :: r.2)) = some (r, l) := h
      obtain ⟨⟨r1, l1⟩, h1, h2⟩ := Option.map_eq_some_iff.mp h
      cases h2
      have ll : (11 :: l1).length = l1.length + 1 := rfl
      have p := pi 11 ll
      have q : wp_4 n ((zpu m 11).1 44 2) 0 x (d + 1) (zpu m 11) (fun x1 m2 => Q (x1 * 2) m2) := by
        rw [k2 11]
        refine go (k2 := own) (v2 := 0) ho (by decide) (k2 11) (k3 11) (k4 11) h1 p.1 p.2 ?_
        exact hq
      exact ⟨fun z => absurd z (by decide), fun _ => q, fun z => absurd z (by decide), fun z => absurd z (by decide), fun z => absurd z (by decide), fun z => absurd z (by decide), fun z => absurd z (by decide), fun z => absurd z (by decide), fun z => absurd z (by decide), fun z => absurd z (by decide), fun z => absurd rfl z.2.1⟩
    · obtain ⟨rfl, rfl⟩ : a = 0 ∧ v = 2 := by omega
      replace h : (zfrm own num tra n own 1 x).bind (fun r => (zfrm own num tra n own 0 (x - tra)).map (fun q => (r.1 ^^^ q.1, 12 :: (r.2 ++ q.2)))) = some (r, l) := h
      obtain ⟨⟨r1, l1⟩, h1, h2⟩ := Option.bind_eq_some_iff.mp h
      obtain ⟨⟨r2, l2⟩, h3, h4⟩ := Option.map_eq_some_iff.mp h2
      cases h4
      have ll : (12 :: (l1 ++ l2)).length = (l1 ++ l2).length + 1 := rfl
      have la : (l1 ++ l2).length = l1.length + l2.length := List.length_append
      have p := pi 12 ll
      have q : wp_4 n ((zpu m 12).1 44 2) 1 x (d + 1) (zpu m 12) (fun x3 m4 => wp_4 n (m4.1 44 2) 0 (x - m4.1 44 4) (d + 1) m4 (fun x5 m6 => Q (x3 ^^^ x5) m6)) := by
        rw [k2 12]
        refine go (k2 := own) (v2 := 1) ho (by decide) (k2 12) (k3 12) (k4 12) h1 p.1 (by omega) ?_
        have z1 : (zpus (zpu m 12) l1).1 44 2 = Int32.ofNat own := (zpus_k l1 (by decide)).trans (k2 12)
        have z3 : (zpus (zpu m 12) l1).1 44 4 = tra := (zpus_k l1 (by decide)).trans (k4 12)
        have zr := zpus_r l1 p.1 (by omega)
        show wp_4 n ((zpus (zpu m 12) l1).1 44 2) 0 (x - (zpus (zpu m 12) l1).1 44 4) (d + 1) (zpus (zpu m 12) l1) _
        rw [z1, z3]
        refine go (k2 := own) (v2 := 0) ho (by decide) z1 ((zpus_k l1 (by decide)).trans (k3 12)) z3 h3 (by omega) (by omega) ?_
        show Q (r1 ^^^ r2) (zpus (zpus (zpu m 12) l1) l2)
        rw [← zpus_app]
        exact hq
      exact ⟨fun z => absurd z (by decide), fun z => absurd z (by decide), fun _ => q, fun z => absurd z (by decide), fun z => absurd z (by decide), fun z => absurd z (by decide), fun z => absurd z (by decide), fun z => absurd z (by decide), fun z => absurd z (by decide), fun z => absurd z (by decide), fun z => absurd rfl z.2.2.1⟩
    · obtain ⟨rfl, rfl⟩ : a = 1 ∧ v = 0 := by omega
      replace h : (zfrm own num tra n (zab 1) 0 x).map (fun r => (r.1 + tra, 20 :: r.2)) = some (r, l) := h
      obtain ⟨⟨r1, l1⟩, h1, h2⟩ := Option.map_eq_some_iff.mp h
      cases h2
      have ll : (20 :: l1).length = l1.length + 1 := rfl
      have p := pi 20 ll
      have q : wp_4 n ((zx_sa.getD 0 []).getD 1 0) 0 x (d + 1) (zpu m 20) (fun x7 m8 => Q (x7 + (m8.1 44 4)) m8) := by
        refine go (k2 := (zab 1)) (v2 := 0) (by decide) (by decide) (k2 20) (k3 20) (k4 20) h1 p.1 p.2 ?_
        show Q (r1 + (zpus (zpu m 20) l1).1 44 4) _
        rw [zpus_k l1 (by decide), k4 20]
        exact hq
      exact ⟨fun z => absurd z (by decide), fun z => absurd z (by decide), fun z => absurd z (by decide), fun _ => q, fun z => absurd z (by decide), fun z => absurd z (by decide), fun z => absurd z (by decide), fun z => absurd z (by decide), fun z => absurd z (by decide), fun z => absurd z (by decide), fun z => absurd rfl z.2.2.2.1⟩
    · obtain ⟨rfl, rfl⟩ : a = 2 ∧ v = 1 := by omega
      replace h : (zfrm own num tra n (zab 2) 1 x).map (fun r => (r.1 * 3, 30 :: r.2)) = some (r, l) := h
      obtain ⟨⟨r1, l1⟩, h1, h2⟩ := Option.map_eq_some_iff.mp h
      cases h2
      have ll : (30 :: l1).length = l1.length + 1 := rfl
      have p := pi 30 ll
      have q : wp_4 n ((zx_sa.getD 0 []).getD 2 0) 1 x (d + 1) (zpu m 30) (fun x9 m10 => Q (x9 * 3) m10) := by
        refine go (k2 := (zab 2)) (v2 := 1) (by decide) (by decide) (k2 30) (k3 30) (k4 30) h1 p.1 p.2 ?_
        exact hq
      exact ⟨fun z => absurd z (by decide), fun z => absurd z (by decide), fun z => absurd z (by decide), fun z => absurd z (by decide), fun _ => q, fun z => absurd z (by decide), fun z => absurd z (by decide), fun z => absurd z (by decide), fun z => absurd z (by decide), fun z => absurd z (by decide), fun z => absurd rfl z.2.2.2.2.1⟩
    · obtain ⟨rfl, rfl⟩ : a = 3 ∧ v = 1 := by omega
      replace h : (zfrm own num tra n (zab 3) 1 (x + 1)).map (fun r => (r.1, 40 :: r.2)) = some (r, l) := h
      obtain ⟨⟨r1, l1⟩, h1, h2⟩ := Option.map_eq_some_iff.mp h
      cases h2
      have ll : (40 :: l1).length = l1.length + 1 := rfl
      have p := pi 40 ll
      have q : wp_4 n ((zx_sa.getD 0 []).getD 3 0) 1 (x + 1) (d + 1) (zpu m 40) (fun x11 m12 => Q x11 m12) := by
        refine go (k2 := (zab 3)) (v2 := 1) (by decide) (by decide) (k2 40) (k3 40) (k4 40) h1 p.1 p.2 ?_
        exact hq
      exact ⟨fun z => absurd z (by decide), fun z => absurd z (by decide), fun z => absurd z (by decide), fun z => absurd z (by decide), fun z => absurd z (by decide), fun _ => q, fun z => absurd z (by decide), fun z => absurd z (by decide), fun z => absurd z (by decide), fun z => absurd z (by decide), fun z => absurd rfl z.2.2.2.2.2.1⟩
    · obtain ⟨rfl, rfl⟩ : a = 4 ∧ v = 0 := by omega
      replace h : (zfrm own num tra n (zab 4) 0 x).map (fun r => (r.1 - num, 51 :: r.2)) = some (r, l) := h
      obtain ⟨⟨r1, l1⟩, h1, h2⟩ := Option.map_eq_some_iff.mp h
      cases h2
      have ll : (51 :: l1).length = l1.length + 1 := rfl
      have p := pi 51 ll
      have q : wp_4 n ((zx_sa.getD 0 []).getD 4 0) 0 x (d + 1) (zpu m 51) (fun x15 m16 => Q (x15 - (m16.1 44 3)) m16) := by
        refine go (k2 := (zab 4)) (v2 := 0) (by decide) (by decide) (k2 51) (k3 51) (k4 51) h1 p.1 p.2 ?_
        show Q (r1 - (zpus (zpu m 51) l1).1 44 3) _
        rw [zpus_k l1 (by decide), k3 51]
        exact hq
      exact ⟨fun z => absurd z (by decide), fun z => absurd z (by decide), fun z => absurd z (by decide), fun z => absurd z (by decide), fun z => absurd z (by decide), fun z => absurd z (by decide), fun z => absurd z (by decide), fun _ => q, fun z => absurd z (by decide), fun z => absurd z (by decide), fun z => absurd rfl z.2.2.2.2.2.2.2.1⟩
    · obtain ⟨rfl, rfl⟩ : a = 4 ∧ v = 2 := by omega
      replace h : (zfrm own num tra n (zab 4) 2 x).map (fun r => (-r.1, 50 :: r.2)) = some (r, l) := h
      obtain ⟨⟨r1, l1⟩, h1, h2⟩ := Option.map_eq_some_iff.mp h
      cases h2
      have ll : (50 :: l1).length = l1.length + 1 := rfl
      have p := pi 50 ll
      have q : wp_4 n ((zx_sa.getD 0 []).getD 4 0) 2 x (d + 1) (zpu m 50) (fun x13 m14 => Q (-x13) m14) := by
        refine go (k2 := (zab 4)) (v2 := 2) (by decide) (by decide) (k2 50) (k3 50) (k4 50) h1 p.1 p.2 ?_
        exact hq
      exact ⟨fun z => absurd z (by decide), fun z => absurd z (by decide), fun z => absurd z (by decide), fun z => absurd z (by decide), fun z => absurd z (by decide), fun z => absurd z (by decide), fun _ => q, fun z => absurd z (by decide), fun z => absurd z (by decide), fun z => absurd z (by decide), fun z => absurd rfl z.2.2.2.2.2.2.1⟩
    · obtain ⟨rfl, rfl⟩ : a = 5 ∧ v = 2 := by omega
      replace h : (zfrm own num tra n (zab 5) 2 x).map (fun r => (r.1 ^^^ 5, 60 :: r.2)) = some (r, l) := h
      obtain ⟨⟨r1, l1⟩, h1, h2⟩ := Option.map_eq_some_iff.mp h
      cases h2
      have ll : (60 :: l1).length = l1.length + 1 := rfl
      have p := pi 60 ll
      have q : wp_4 n ((zx_sa.getD 0 []).getD 5 0) 2 x (d + 1) (zpu m 60) (fun x17 m18 => Q (x17 ^^^ 5) m18) := by
        refine go (k2 := (zab 5)) (v2 := 2) (by decide) (by decide) (k2 60) (k3 60) (k4 60) h1 p.1 p.2 ?_
        exact hq
      exact ⟨fun z => absurd z (by decide), fun z => absurd z (by decide), fun z => absurd z (by decide), fun z => absurd z (by decide), fun z => absurd z (by decide), fun z => absurd z (by decide), fun z => absurd z (by decide), fun z => absurd z (by decide), fun _ => q, fun z => absurd z (by decide), fun z => absurd rfl z.2.2.2.2.2.2.2.2.1⟩
    · obtain ⟨rfl, rfl⟩ : a = 6 ∧ v = 0 := by omega
      replace h : (zfrm own num tra n (zab 6) 0 x).map (fun r => (r.1 * 2, 70 :: r.2)) = some (r, l) := h
      obtain ⟨⟨r1, l1⟩, h1, h2⟩ := Option.map_eq_some_iff.mp h
      cases h2
      have ll : (70 :: l1).length = l1.length + 1 := rfl
      have p := pi 70 ll
      have q : wp_4 n ((zx_sa.getD 0 []).getD 6 0) 0 x (d + 1) (zpu m 70) (fun x19 m20 => Q (x19 * 2) m20) := by
        refine go (k2 := (zab 6)) (v2 := 0) (by decide) (by decide) (k2 70) (k3 70) (k4 70) h1 p.1 p.2 ?_
        exact hq
      exact ⟨fun z => absurd z (by decide), fun z => absurd z (by decide), fun z => absurd z (by decide), fun z => absurd z (by decide), fun z => absurd z (by decide), fun z => absurd z (by decide), fun z => absurd z (by decide), fun z => absurd z (by decide), fun z => absurd z (by decide), fun _ => q, fun z => absurd rfl z.2.2.2.2.2.2.2.2.2⟩
    · obtain ⟨rfl, rfl⟩ : a = 6 ∧ v = 1 := by omega
      replace h : (zfrm own num tra n (zab 6) 1 (x - tra)).map (fun r => (r.1, 71 :: r.2)) = some (r, l) := h
      obtain ⟨⟨r1, l1⟩, h1, h2⟩ := Option.map_eq_some_iff.mp h
      cases h2
      have ll : (71 :: l1).length = l1.length + 1 := rfl
      have p := pi 71 ll
      have q : wp_4 n ((zx_sa.getD 0 []).getD 6 0) 1 (x - ((zpu m 71).1 44 4)) (d + 1) (zpu m 71) (fun x21 m22 => Q x21 m22) := by
        rw [k4 71]
        refine go (k2 := (zab 6)) (v2 := 1) (by decide) (by decide) (k2 71) (k3 71) (k4 71) h1 p.1 p.2 ?_
        exact hq
      exact ⟨fun z => absurd z (by decide), fun z => absurd z (by decide), fun z => absurd z (by decide), fun z => absurd z (by decide), fun z => absurd z (by decide), fun z => absurd z (by decide), fun z => absurd z (by decide), fun z => absurd z (by decide), fun z => absurd z (by decide), fun z => absurd z (by decide), fun _ => q⟩
theorem zmv_ex (own : Nat) (ho : own < 7) (v : Nat) (hv : v < 3) (num tra x : Int32) : ∃ r l, zfrm own num tra 8 own v x = some (r, l) ∧ l.length ≤ 20 := by
  match own, ho, v, hv with
  | 0, _, 0, _ => exact ⟨_, _, rfl, Nat.le_of_ble_eq_true rfl⟩
  | 0, _, 1, _ => exact ⟨_, _, rfl, Nat.le_of_ble_eq_true rfl⟩
  | 0, _, 2, _ => exact ⟨_, _, rfl, Nat.le_of_ble_eq_true rfl⟩
  | 1, _, 0, _ => exact ⟨_, _, rfl, Nat.le_of_ble_eq_true rfl⟩
  | 1, _, 1, _ => exact ⟨_, _, rfl, Nat.le_of_ble_eq_true rfl⟩
  | 1, _, 2, _ => exact ⟨_, _, rfl, Nat.le_of_ble_eq_true rfl⟩
  | 2, _, 0, _ => exact ⟨_, _, rfl, Nat.le_of_ble_eq_true rfl⟩
  | 2, _, 1, _ => exact ⟨_, _, rfl, Nat.le_of_ble_eq_true rfl⟩
  | 2, _, 2, _ => exact ⟨_, _, rfl, Nat.le_of_ble_eq_true rfl⟩
  | 3, _, 0, _ => exact ⟨_, _, rfl, Nat.le_of_ble_eq_true rfl⟩
  | 3, _, 1, _ => exact ⟨_, _, rfl, Nat.le_of_ble_eq_true rfl⟩
  | 3, _, 2, _ => exact ⟨_, _, rfl, Nat.le_of_ble_eq_true rfl⟩
  | 4, _, 0, _ => exact ⟨_, _, rfl, Nat.le_of_ble_eq_true rfl⟩
  | 4, _, 1, _ => exact ⟨_, _, rfl, Nat.le_of_ble_eq_true rfl⟩
  | 4, _, 2, _ => exact ⟨_, _, rfl, Nat.le_of_ble_eq_true rfl⟩
  | 5, _, 0, _ => exact ⟨_, _, rfl, Nat.le_of_ble_eq_true rfl⟩
  | 5, _, 1, _ => exact ⟨_, _, rfl, Nat.le_of_ble_eq_true rfl⟩
  | 5, _, 2, _ => exact ⟨_, _, rfl, Nat.le_of_ble_eq_true rfl⟩
  | 6, _, 0, _ => exact ⟨_, _, rfl, Nat.le_of_ble_eq_true rfl⟩
  | 6, _, 1, _ => exact ⟨_, _, rfl, Nat.le_of_ble_eq_true rfl⟩
  | 6, _, 2, _ => exact ⟨_, _, rfl, Nat.le_of_ble_eq_true rfl⟩
def zmv (own v : Nat) (num tra x : Int32) : Int32 × List Nat := (zfrm own num tra 8 own v x).getD (0, [])
theorem zmv_eq {own v : Nat} (ho : own < 7) (hv : v < 3) (num tra x : Int32) : zfrm own num tra 8 own v x = some (zmv own v num tra x) ∧ (zmv own v num tra x).2.length ≤ 20 := by
  obtain ⟨r, l, h, k⟩ := zmv_ex own ho v hv num tra x
  unfold zmv
  rw [h]
  exact ⟨rfl, k⟩
section
variable {m : zf_Me}
/-- the memory behind a move -/
def zmb (m : zf_Me) (k p a : Int32) : zf_Me := zf_u (zf_u (zf_u (zf_u m 44 1 0) 44 2 k) 44 3 p) 44 4 a
theorem zs_2 {p v x : Int32} (hp : 0 ≤ p.toInt ∧ p.toInt < 6) (hv : 0 ≤ v.toInt ∧ v.toInt < 3) (hk : 0 ≤ (m.1 6 p.toInt.toNat).toInt ∧ (m.1 6 p.toInt.toNat).toInt ≤ 6) {Q : Int32 → zf_Me → Prop} (hq : Q (zmv (m.1 6 p.toInt.toNat).toInt.toNat v.toInt.toNat p (m.1 7 p.toInt.toNat) x).1 (zpus (zmb m (m.1 6 p.toInt.toNat) p (m.1 7 p.toInt.toNat)) (zmv (m.1 6 p.toInt.toNat).toInt.toNat v.toInt.toNat p (m.1 7 p.toInt.toNat) x).2)) : wp_2 3 p v x m Q := by
  intro m2 q2
  refine ⟨hp, fun m3 q3 m5 q5 => ⟨hp, fun m7 q7 => ?_⟩⟩
  have c6 : m2.1 6 = m.1 6 := by rw [q2]; exact zf_u1 (by decide)
  have c7 : m5.1 7 = m.1 7 := by rw [q5, zf_u1 (by decide), q3, zf_u1 (by decide), q2, zf_u1 (by decide)]
  have e7 : m7 = zmb m (m.1 6 p.toInt.toNat) p (m.1 7 p.toInt.toNat) := by
    rw [q7, c7, q5, q3, c6, q2]
    rfl
  have ek : m7.1 44 2 = m.1 6 p.toInt.toNat := by rw [q7, zf_u4 (by decide), q5, zf_u4 (by decide), q3, zf_u3, c6]
  have e3 : m7.1 44 3 = p := by rw [q7, zf_u4 (by decide), q5, zf_u3]
  have e4 : m7.1 44 4 = m.1 7 p.toInt.toNat := by rw [q7, zf_u3, c7]
  have er : m7.1 44 1 = 0 := by rw [q7, zf_u4 (by decide), q5, zf_u4 (by decide), q3, zf_u4 (by decide), q2, zf_u3]
  have ev : v = Int32.ofNat v.toInt.toNat := zn_of _ _ (by omega)
  have eK : m.1 6 p.toInt.toNat = Int32.ofNat (m.1 6 p.toInt.toNat).toInt.toNat := zn_of _ _ (by omega)
  have ok := zmv_eq (own := (m.1 6 p.toInt.toNat).toInt.toNat) (v := v.toInt.toNat) (by omega) (by omega) p (m.1 7 p.toInt.toNat) x
  refine ⟨8, by decide, ?_⟩
  have h4 := zmv_4 (own := (m.1 6 p.toInt.toNat).toInt.toNat) (by omega) (num := p) (tra := m.1 7 p.toInt.toNat) 8 (k := (m.1 6 p.toInt.toNat).toInt.toNat) (v := v.toInt.toNat) (x := x) (d := 0) (m := m7) (Q := Q) (by omega) (by omega) (by decide) (by decide) (ek.trans eK) e3 e4 (znz _ (by omega) _ (by omega)) ok.1 (by rw [er]; decide) (by rw [er]; have := ok.2; show (0 : Int) + ((zmv (m.1 6 p.toInt.toNat).toInt.toNat v.toInt.toNat p (m.1 7 p.toInt.toNat) x).2.length : Int) ≤ 1000000; omega) (by rw [e7]; exact hq)
  rw [← eK, ← ev] at h4
  rw [ek]
  exact h4
end
