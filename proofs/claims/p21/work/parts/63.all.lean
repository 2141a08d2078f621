/-! part 63: the reference keeps its walk in a row, takes it out of it: laid by wip/flat/w63.py -/
def zF (f : zS) (i : Nat) : Int := if i < 24 then f 0 i else if i < 48 then f 1 (i - 24) else if i < 54 then f 2 (i - 48) else if i < 60 then f 3 (i - 54) else if i < 66 then f 4 (i - 60) else f 5 (i - 66)
def zL (g : Nat → Int) : zS := fun c k => match c with
  | 0 => if k < 24 then g k else 0
  | 1 => if k < 24 then g (24 + k) else 0
  | 2 => if k < 6 then g (48 + k) else 0
  | 3 => if k < 6 then g (54 + k) else 0
  | 4 => if k < 6 then g (60 + k) else 0
  | 5 => if k < 13 then g (66 + k) else 0
  | _ => 0
/-- what lies in a row -/
def zA (a o : Nat) (m : zf_Me) : zS := zL (fun i => (m.1 a (o + i)).toInt)
theorem zL_ext {g h : Nat → Int} (e : ∀ i, i < 79 → g i = h i) : zL g = zL h := by
  funext c k
  unfold zL
  split
  · split
    · exact e _ (by omega)
    · rfl
  · split
    · exact e _ (by omega)
    · rfl
  · split
    · exact e _ (by omega)
    · rfl
  · split
    · exact e _ (by omega)
    · rfl
  · split
    · exact e _ (by omega)
    · rfl
  · split
    · exact e _ (by omega)
    · rfl
  · rfl
theorem zF_0 {f : zS} {k : Nat} (h : k < 24) : zF f k = f 0 k := if_pos h
theorem zF_1 {f : zS} {k : Nat} (h : k < 24) : zF f (24 + k) = f 1 k := by
  unfold zF
  rw [if_neg (by omega), if_pos (by omega), Nat.add_sub_cancel_left]
theorem zF_2 {f : zS} {k : Nat} (h : k < 6) : zF f (48 + k) = f 2 k := by
  unfold zF
  rw [if_neg (by omega), if_neg (by omega), if_pos (by omega), Nat.add_sub_cancel_left]
theorem zF_3 {f : zS} {k : Nat} (h : k < 6) : zF f (54 + k) = f 3 k := by
  unfold zF
  rw [if_neg (by omega), if_neg (by omega), if_neg (by omega), if_pos (by omega), Nat.add_sub_cancel_left]
theorem zF_4 {f : zS} {k : Nat} (h : k < 6) : zF f (60 + k) = f 4 k := by
  unfold zF
  rw [if_neg (by omega), if_neg (by omega), if_neg (by omega), if_neg (by omega), if_pos (by omega), Nat.add_sub_cancel_left]
theorem zF_5 {f : zS} {k : Nat} : zF f (66 + k) = f 5 k := by
  unfold zF
  rw [if_neg (by omega), if_neg (by omega), if_neg (by omega), if_neg (by omega), if_neg (by omega), Nat.add_sub_cancel_left]
theorem zr_L {m : zf_Me} : zL (zF (zr m)) = zr m := by
  funext c k
  match c with
  | 0 =>
    show (if k < 24 then zF (zr m) k else 0) = zN 24 (m.1 65) k
    unfold zN
    by_cases h : k < 24
    · rw [if_pos h, if_pos h, zF_0 h]
      exact zN_lt h
    · rw [if_neg h, if_neg h]
  | 1 =>
    show (if k < 24 then zF (zr m) (24 + k) else 0) = zN 24 (m.1 66) k
    unfold zN
    by_cases h : k < 24
    · rw [if_pos h, if_pos h, zF_1 h]
      exact zN_lt h
    · rw [if_neg h, if_neg h]
  | 2 =>
    show (if k < 6 then zF (zr m) (48 + k) else 0) = zN 6 (m.1 67) k
    unfold zN
    by_cases h : k < 6
    · rw [if_pos h, if_pos h, zF_2 h]
      exact zN_lt h
    · rw [if_neg h, if_neg h]
  | 3 =>
    show (if k < 6 then zF (zr m) (54 + k) else 0) = zN 6 (m.1 68) k
    unfold zN
    by_cases h : k < 6
    · rw [if_pos h, if_pos h, zF_3 h]
      exact zN_lt h
    · rw [if_neg h, if_neg h]
  | 4 =>
    show (if k < 6 then zF (zr m) (60 + k) else 0) = zN 6 (m.1 69) k
    unfold zN
    by_cases h : k < 6
    · rw [if_pos h, if_pos h, zF_4 h]
      exact zN_lt h
    · rw [if_neg h, if_neg h]
  | 5 =>
    show (if k < 13 then zF (zr m) (66 + k) else 0) = zr m 5 k
    rw [zF_5]
    by_cases h : k < 13
    · rw [if_pos h]
    · rw [if_neg h]
      obtain ⟨j, rfl⟩ : ∃ j, k = j + 13 := ⟨k - 13, by omega⟩
      rfl
  | n + 6 => rfl
theorem zF_u {f : zS} {j i : Nat} {x : Int} : zF (zU f 5 j x) i = if i = 66 + j then x else zF f i := by
  by_cases e : i = 66 + j
  · rw [if_pos e, e, zF_5, zU_s]
  · rw [if_neg e]
    unfold zF
    split
    · exact zU_o (by omega)
    · split
      · exact zU_o (by omega)
      · split
        · exact zU_o (by omega)
        · split
          · exact zU_o (by omega)
          · split
            · exact zU_o (by omega)
            · exact zU_o (by omega)
/-- a row's element becomes another: rows of the walk -/
theorem zF_a {f : zS} {c b n j i : Nat} {x : Int} (hc : (c = 0 ∧ b = 0 ∧ n = 24) ∨ (c = 1 ∧ b = 24 ∧ n = 24) ∨ (c = 2 ∧ b = 48 ∧ n = 6) ∨ (c = 3 ∧ b = 54 ∧ n = 6) ∨ (c = 4 ∧ b = 60 ∧ n = 6)) (hj : j < n) : zF (zU f c j x) i = if i = b + j then x else zF f i := by
  by_cases e : i = b + j
  · rw [if_pos e, e]
    rcases hc with ⟨rfl, rfl, rfl⟩ | ⟨rfl, rfl, rfl⟩ | ⟨rfl, rfl, rfl⟩ | ⟨rfl, rfl, rfl⟩ | ⟨rfl, rfl, rfl⟩
    · rw [Nat.zero_add, zF_0 hj, zU_s]
    · rw [zF_1 hj, zU_s]
    · rw [zF_2 hj, zU_s]
    · rw [zF_3 hj, zU_s]
    · rw [zF_4 hj, zU_s]
  · rw [if_neg e]
    rcases hc with ⟨rfl, rfl, rfl⟩ | ⟨rfl, rfl, rfl⟩ | ⟨rfl, rfl, rfl⟩ | ⟨rfl, rfl, rfl⟩ | ⟨rfl, rfl, rfl⟩
    · unfold zF
      split
      · exact zU_o (by omega)
      · split
        · exact zU_o (by omega)
        · split
          · exact zU_o (by omega)
          · split
            · exact zU_o (by omega)
            · split
              · exact zU_o (by omega)
              · exact zU_o (by omega)
    · unfold zF
      split
      · exact zU_o (by omega)
      · split
        · exact zU_o (by omega)
        · split
          · exact zU_o (by omega)
          · split
            · exact zU_o (by omega)
            · split
              · exact zU_o (by omega)
              · exact zU_o (by omega)
    · unfold zF
      split
      · exact zU_o (by omega)
      · split
        · exact zU_o (by omega)
        · split
          · exact zU_o (by omega)
          · split
            · exact zU_o (by omega)
            · split
              · exact zU_o (by omega)
              · exact zU_o (by omega)
    · unfold zF
      split
      · exact zU_o (by omega)
      · split
        · exact zU_o (by omega)
        · split
          · exact zU_o (by omega)
          · split
            · exact zU_o (by omega)
            · split
              · exact zU_o (by omega)
              · exact zU_o (by omega)
    · unfold zF
      split
      · exact zU_o (by omega)
      · split
        · exact zU_o (by omega)
        · split
          · exact zU_o (by omega)
          · split
            · exact zU_o (by omega)
            · split
              · exact zU_o (by omega)
              · exact zU_o (by omega)
section
variable {m : zf_Me}
/-- a row into another, element by element -/
theorem zs_160s {a1 n1 a3 n3 : Nat} {n f b : Int32} (hb : b.toInt = 0) (hn : 0 ≤ n.toInt ∧ n.toInt ≤ n1 ∧ n.toInt ≤ 100) (hf : 0 ≤ f.toInt ∧ f.toInt + n.toInt ≤ n3 ∧ f.toInt ≤ 1000) (Inv : Nat → zf_Me → Prop) (h0 : Inv 0 m) (st : ∀ (j : Nat) (mj : zf_Me), (j : Int) < n.toInt → Inv j mj → Inv (j + 1) (zf_u mj a3 (f.toInt.toNat + j) (mj.1 a1 j))) {Q : Int32 → zf_Me → Prop} (hq : ∀ x m', x.toInt = f.toInt + n.toInt → Inv n.toInt.toNat m' → Q x m') : wp_160 a1 n1 a3 n3 n f b m Q := by
  have e1 : (1 : Int32).toInt = 1 := rfl
  have lp : ∀ (k : Nat) (v : Int32) (mj : zf_Me), 0 ≤ v.toInt → v.toInt ≤ n.toInt → n.toInt - v.toInt < k → Inv v.toInt.toNat mj → wq_160_3 a1 n1 a3 n3 n f b Q k v mj := by
    intro k
    induction k with
    | zero => intro v mj k0 k1 k2; omega
    | succ k ih =>
      intro v mj k0 k1 k2 hi
      refine ⟨fun g => hq _ mj (fb_addI (by omega) (by omega)) (by rw [show n.toInt = v.toInt by omega]; exact hi), fun g => ?_⟩
      have s := fb_addI (x := v) (y := 1) (by omega) (by omega)
      have s2 := fb_addI (x := f) (y := v) (by omega) (by omega)
      refine ⟨fun _ => ⟨by omega, by omega, fun m1 q1 => ih _ m1 (by omega) (by omega) (by omega) ?_⟩, fun z => absurd hb z⟩
      have t := st v.toInt.toNat mj (by omega) hi
      rw [q1, show (f + v).toInt.toNat = f.toInt.toNat + v.toInt.toNat by omega, show (v + 1).toInt.toNat = v.toInt.toNat + 1 by omega]
      exact t
  exact ⟨102, lp 102 0 m (by decide) (by exact hn.1) (by show n.toInt - 0 < _; omega) h0⟩
theorem zs_160b {a1 n1 a3 n3 : Nat} {n f b : Int32} (hb : ¬ b.toInt = 0) (hn : 0 ≤ n.toInt ∧ n.toInt ≤ n1 ∧ n.toInt ≤ 100) (hf : 0 ≤ f.toInt ∧ f.toInt + n.toInt ≤ n3 ∧ f.toInt ≤ 1000) (Inv : Nat → zf_Me → Prop) (h0 : Inv 0 m) (st : ∀ (j : Nat) (mj : zf_Me), (j : Int) < n.toInt → Inv j mj → Inv (j + 1) (zf_u mj a1 j (mj.1 a3 (f.toInt.toNat + j)))) {Q : Int32 → zf_Me → Prop} (hq : ∀ x m', x.toInt = f.toInt + n.toInt → Inv n.toInt.toNat m' → Q x m') : wp_160 a1 n1 a3 n3 n f b m Q := by
  have e1 : (1 : Int32).toInt = 1 := rfl
  have lp : ∀ (k : Nat) (v : Int32) (mj : zf_Me), 0 ≤ v.toInt → v.toInt ≤ n.toInt → n.toInt - v.toInt < k → Inv v.toInt.toNat mj → wq_160_3 a1 n1 a3 n3 n f b Q k v mj := by
    intro k
    induction k with
    | zero => intro v mj k0 k1 k2; omega
    | succ k ih =>
      intro v mj k0 k1 k2 hi
      refine ⟨fun g => hq _ mj (fb_addI (by omega) (by omega)) (by rw [show n.toInt = v.toInt by omega]; exact hi), fun g => ?_⟩
      have s := fb_addI (x := v) (y := 1) (by omega) (by omega)
      have s2 := fb_addI (x := f) (y := v) (by omega) (by omega)
      refine ⟨fun z => absurd z hb, fun _ => ⟨by omega, by omega, fun m1 q1 => ih _ m1 (by omega) (by omega) (by omega) ?_⟩⟩
      have t := st v.toInt.toNat mj (by omega) hi
      rw [q1, show (f + v).toInt.toNat = f.toInt.toNat + v.toInt.toNat by omega, show (v + 1).toInt.toNat = v.toInt.toNat + 1 by omega]
      exact t
  exact ⟨102, lp 102 0 m (by decide) (by exact hn.1) (by show n.toInt - 0 < _; omega) h0⟩
abbrev zgA (a o : Nat) (m m' : zf_Me) : Prop := zgr' (fun b k => b = a ∧ o ≤ k ∧ k < o + 79) m m'
/-- so much of the walk lies in the row -/
def zIs (a o : Nat) (m : zf_Me) (p : Nat) (mj : zf_Me) : Prop := (∀ i, i < p → (mj.1 a (o + i)).toInt = zF (zr m) i) ∧ zgA a o m mj ∧ zr mj = zr m
theorem zIs_st {a o p : Nat} {mj : zf_Me} {x : Int32} (ha : ¬ a = 63 ∧ (a < 65 ∨ 69 < a)) (hp : p < 79) (h : zIs a o m p mj) (hx : x.toInt = zF (zr m) p) : zIs a o m (p + 1) (zf_u mj a (o + p) x) := by
  refine ⟨fun i hi => ?_, zgr_u h.2.1 (by omega), ?_⟩
  · by_cases e : i = p
    · rw [e, zf_u3, hx]
    · rw [zf_u4 (by omega)]
      exact h.1 i (by omega)
  · rw [← h.2.2]
    exact zr_fr (fun k _ => by rw [zf_u1 (by omega)]) (fun b _ _ => zf_u1 (by omega))
theorem zs_inn {x k : Int32} {n j : Nat} (hk : k.toInt = j) (h : 0 ≤ x.toInt ∧ x.toInt + 7 < n ∧ x.toInt ≤ 500) (hj : j ≤ 7) : 0 ≤ (x + k).toInt ∧ (x + k).toInt < n := by
  have := fb_addI (x := x) (y := k) (by omega) (by omega)
  omega
theorem zs_inq {x k : Int32} {p j : Nat} (hk : k.toInt = j) (h : x.toInt = (p : Int) + 71) (hp : x.toInt ≤ 500) (hj : j ≤ 7) : (x + k).toInt.toNat = p + (71 + j) := by
  have := fb_addI (x := x) (y := k) (by omega) (by omega)
  omega
theorem zs_161s {a n : Nat} {o b : Int32} (ha : ¬ a = 63 ∧ (a < 65 ∨ 69 < a)) (hb : b.toInt = 0) (ho : 0 ≤ o.toInt ∧ o.toInt + 79 ≤ n ∧ o.toInt ≤ 400) {Q : zf_Me → Prop} (hq : ∀ m', zA a o.toInt.toNat m' = zr m → zgA a o.toInt.toNat m m' → zr m' = zr m → Q m') : wp_161 a n o b m Q := by
  have e1 : (1 : Int32).toInt = 1 := rfl
  have e2 : (2 : Int32).toInt = 2 := rfl
  have e3 : (3 : Int32).toInt = 3 := rfl
  have e4 : (4 : Int32).toInt = 4 := rfl
  have e5 : (5 : Int32).toInt = 5 := rfl
  have e6 : (6 : Int32).toInt = 6 := rfl
  have e7 : (7 : Int32).toInt = 7 := rfl
  have e24 : (24 : Int32).toInt = 24 := rfl
  obtain ⟨p, hp⟩ : ∃ p, p = o.toInt.toNat := ⟨_, rfl⟩
  have s0 : zIs a p m 0 m := ⟨fun i hi => by omega, zgr_refl, rfl⟩
  refine zs_160s hb (by omega) (by omega) (fun j mj => zIs a p m (0 + j) mj) s0 (fun j mj hj hi => ?_) (fun x0 m1 hx0 s1 => ?_)
  · rw [show o.toInt.toNat + j = p + (0 + j) by omega, show 0 + (j + 1) = (0 + j) + 1 by omega]
    refine zIs_st ha (by omega) hi ?_
    rw [Nat.zero_add, zF_0 (by omega), ← hi.2.2]
    exact (zN_lt (by omega)).symm
  replace s1 : zIs a p m 24 m1 := s1
  refine zs_160s hb (by omega) (by omega) (fun j mj => zIs a p m (24 + j) mj) s1 (fun j mj hj hi => ?_) (fun x1 m2 hx1 s2 => ?_)
  · rw [show x0.toInt.toNat + j = p + (24 + j) by omega, show 24 + (j + 1) = (24 + j) + 1 by omega]
    refine zIs_st ha (by omega) hi ?_
    rw [zF_1 (by omega), ← hi.2.2]
    exact (zN_lt (by omega)).symm
  replace s2 : zIs a p m 48 m2 := s2
  refine zs_160s hb (by omega) (by omega) (fun j mj => zIs a p m (48 + j) mj) s2 (fun j mj hj hi => ?_) (fun x2 m3 hx2 s3 => ?_)
  · rw [show x1.toInt.toNat + j = p + (48 + j) by omega, show 48 + (j + 1) = (48 + j) + 1 by omega]
    refine zIs_st ha (by omega) hi ?_
    rw [zF_2 (by omega), ← hi.2.2]
    exact (zN_lt (by omega)).symm
  replace s3 : zIs a p m 54 m3 := s3
  refine zs_160s hb (by omega) (by omega) (fun j mj => zIs a p m (54 + j) mj) s3 (fun j mj hj hi => ?_) (fun x3 m4 hx3 s4 => ?_)
  · rw [show x2.toInt.toNat + j = p + (54 + j) by omega, show 54 + (j + 1) = (54 + j) + 1 by omega]
    refine zIs_st ha (by omega) hi ?_
    rw [zF_3 (by omega), ← hi.2.2]
    exact (zN_lt (by omega)).symm
  replace s4 : zIs a p m 60 m4 := s4
  refine zs_160s hb (by omega) (by omega) (fun j mj => zIs a p m (60 + j) mj) s4 (fun j mj hj hi => ?_) (fun x4 m5 hx4 s5 => ?_)
  · rw [show x3.toInt.toNat + j = p + (60 + j) by omega, show 60 + (j + 1) = (60 + j) + 1 by omega]
    refine zIs_st ha (by omega) hi ?_
    rw [zF_4 (by omega), ← hi.2.2]
    exact (zN_lt (by omega)).symm
  replace s5 : zIs a p m 66 m5 := s5
  have lp : ∀ (k : Nat) (v : Int32) (mj : zf_Me), 0 ≤ v.toInt → v.toInt ≤ 5 → 5 - v.toInt < k → zIs a p m (66 + v.toInt.toNat) mj → wq_161_82 a n o b Q k x4 v mj := by
    intro k
    induction k with
    | zero => intro v mj k0 k1 k2; omega
    | succ k ih =>
      intro v mj k0 k1 k2 hi
      have sv := fb_addI (x := v) (y := 1) (by omega) (by omega)
      have sx := fb_addI (x := x4) (y := v) (by omega) (by omega)
      have s5 := fb_addI (x := x4) (y := 5) (by omega) (by omega)
      refine ⟨fun g => ⟨fun _ => ?_, fun z => absurd hb z⟩, fun g => ⟨fun _ => zs_147 (by omega) (fun x hx => ⟨by omega, fun m45 q45 => ih _ m45 (by omega) (by omega) (by omega) ?_⟩), fun z => absurd hb z⟩⟩
      · rw [show v.toInt = 5 by omega] at hi
        replace hi : zIs a p m 71 mj := hi
        have b7 : 0 ≤ (x4 + 5).toInt ∧ (x4 + 5).toInt + 7 < n ∧ (x4 + 5).toInt ≤ 500 := by
          clear ha
          omega
        have f7 : (x4 + 5).toInt = (p : Int) + 71 := by
          clear ha b7
          omega
        refine ⟨⟨b7.1, by have := b7.2.1; omega⟩, fun m11 q11 => ⟨zs_inn e1 b7 (by decide), fun m13 q13 => ⟨zs_inn e2 b7 (by decide), fun m15 q15 => ⟨zs_inn e3 b7 (by decide), fun m17 q17 => ⟨zs_inn e4 b7 (by decide), fun m19 q19 => ⟨zs_inn e5 b7 (by decide), fun m21 q21 => ⟨zs_inn e6 b7 (by decide), fun m23 q23 => ⟨zs_inn e7 b7 (by decide), fun m25 q25 => ?_⟩⟩⟩⟩⟩⟩⟩⟩
        have i0 : zIs a p m 72 m11 := by
          rw [q11, show (x4 + 5).toInt.toNat = p + 71 by have := f7; omega]
          refine zIs_st ha (by decide) hi ?_
          show _ = zF (zr m) (66 + 5)
          rw [zF_5, ← hi.2.2]
          rfl
        have i1 : zIs a p m 73 m13 := by
          rw [q13, show (x4 + 5 + 1).toInt.toNat = p + 72 from zs_inq e1 f7 b7.2.2 (by decide)]
          refine zIs_st ha (by decide) i0 ?_
          show _ = zF (zr m) (66 + 6)
          rw [zF_5, ← i0.2.2]
          rfl
        have i2 : zIs a p m 74 m15 := by
          rw [q15, show (x4 + 5 + 2).toInt.toNat = p + 73 from zs_inq e2 f7 b7.2.2 (by decide)]
          refine zIs_st ha (by decide) i1 ?_
          show _ = zF (zr m) (66 + 7)
          rw [zF_5, ← i1.2.2]
          rfl
        have i3 : zIs a p m 75 m17 := by
          rw [q17, show (x4 + 5 + 3).toInt.toNat = p + 74 from zs_inq e3 f7 b7.2.2 (by decide)]
          refine zIs_st ha (by decide) i2 ?_
          show _ = zF (zr m) (66 + 8)
          rw [zF_5, ← i2.2.2]
          rfl
        have i4 : zIs a p m 76 m19 := by
          rw [q19, show (x4 + 5 + 4).toInt.toNat = p + 75 from zs_inq e4 f7 b7.2.2 (by decide)]
          refine zIs_st ha (by decide) i3 ?_
          show _ = zF (zr m) (66 + 9)
          rw [zF_5, ← i3.2.2]
          rfl
        have i5 : zIs a p m 77 m21 := by
          rw [q21, show (x4 + 5 + 5).toInt.toNat = p + 76 from zs_inq e5 f7 b7.2.2 (by decide)]
          refine zIs_st ha (by decide) i4 ?_
          show _ = zF (zr m) (66 + 10)
          rw [zF_5, ← i4.2.2]
          rfl
        have i6 : zIs a p m 78 m23 := by
          rw [q23, show (x4 + 5 + 6).toInt.toNat = p + 77 from zs_inq e6 f7 b7.2.2 (by decide)]
          refine zIs_st ha (by decide) i5 ?_
          show _ = zF (zr m) (66 + 11)
          rw [zF_5, ← i5.2.2]
          rfl
        have i7 : zIs a p m 79 m25 := by
          rw [q25, show (x4 + 5 + 7).toInt.toNat = p + 78 from zs_inq e7 f7 b7.2.2 (by decide)]
          refine zIs_st ha (by decide) i6 ?_
          show _ = zF (zr m) (66 + 12)
          rw [zF_5, ← i6.2.2]
          rfl
        refine hq m25 ?_ (by rw [← hp]; exact i7.2.1) i7.2.2
        rw [← hp, ← zr_L (m := m)]
        exact zL_ext (fun i hi => i7.1 i hi)
      · rw [q45, show (x4 + v).toInt.toNat = p + (66 + v.toInt.toNat) by omega, show 66 + (v + 1).toInt.toNat = (66 + v.toInt.toNat) + 1 by omega]
        refine zIs_st ha (by omega) hi ?_
        rw [zF_5, hx, hi.2.2]
  exact ⟨7, lp 7 0 m5 (by decide) (by decide) (by decide) s5⟩
/-- so much of the walk is the row's -/
def zIb (a o : Nat) (m : zf_Me) (p : Nat) (mj : zf_Me) : Prop := (∀ i, i < p → zF (zr mj) i = (m.1 a (o + i)).toInt) ∧ zgc m mj
theorem zIb_row {a o p k : Nat} {mj : zf_Me} (ha : ¬ a = 63 ∧ (a < 65 ∨ 69 < a)) (h : zIb a o m p mj) : mj.1 a k = m.1 a k := h.2.1 a k (by omega)
theorem zIb_u {a o p fld : Nat} {mj : zf_Me} {x : Int32} (h : zIb a o m (66 + p) mj) (hz : zr (zf_u mj 63 fld x) = zU (zr mj) 5 p x.toInt) (hf : fld < 13) (hx : x = m.1 a (o + (66 + p))) : zIb a o m (66 + (p + 1)) (zf_u mj 63 fld x) := by
  refine ⟨fun i hi => ?_, zgr_u h.2 (Or.inl ⟨rfl, hf⟩)⟩
  rw [hz, zF_u]
  by_cases e : i = 66 + p
  · rw [if_pos e, hx, e]
  · rw [if_neg e]
    exact h.1 i (by omega)
theorem zs_161b {a n : Nat} {o b : Int32} (ha : ¬ a = 63 ∧ (a < 65 ∨ 69 < a)) (hb : ¬ b.toInt = 0) (ho : 0 ≤ o.toInt ∧ o.toInt + 79 ≤ n ∧ o.toInt ≤ 400) {Q : zf_Me → Prop} (hq : ∀ m', zr m' = zA a o.toInt.toNat m → zgc m m' → Q m') : wp_161 a n o b m Q := by
  have e1 : (1 : Int32).toInt = 1 := rfl
  have e2 : (2 : Int32).toInt = 2 := rfl
  have e3 : (3 : Int32).toInt = 3 := rfl
  have e4 : (4 : Int32).toInt = 4 := rfl
  have e5 : (5 : Int32).toInt = 5 := rfl
  have e6 : (6 : Int32).toInt = 6 := rfl
  have e7 : (7 : Int32).toInt = 7 := rfl
  have e24 : (24 : Int32).toInt = 24 := rfl
  obtain ⟨p, hp⟩ : ∃ p, p = o.toInt.toNat := ⟨_, rfl⟩
  have s0 : zIb a p m 0 m := ⟨fun i hi => by omega, zgr_refl⟩
  refine zs_160b hb (by omega) (by omega) (fun j mj => zIb a p m (0 + j) mj) s0 (fun j mj hj hi => ?_) (fun x0 m1 hx0 s1 => ?_)
  · refine ⟨fun i hi2 => ?_, zgr_u hi.2 (by omega)⟩
    rw [zr_a0 (by omega), zF_a (b := 0) (n := 24) (by omega) (by omega), zIb_row ha hi, show o.toInt.toNat + j = p + (0 + j) by omega]
    by_cases e : i = 0 + j
    · rw [if_pos e, e]
    · rw [if_neg e]
      exact hi.1 i (by omega)
  replace s1 : zIb a p m 24 m1 := s1
  refine zs_160b hb (by omega) (by omega) (fun j mj => zIb a p m (24 + j) mj) s1 (fun j mj hj hi => ?_) (fun x1 m2 hx1 s2 => ?_)
  · refine ⟨fun i hi2 => ?_, zgr_u hi.2 (by omega)⟩
    rw [zr_a1 (by omega), zF_a (b := 24) (n := 24) (by omega) (by omega), zIb_row ha hi, show x0.toInt.toNat + j = p + (24 + j) by omega]
    by_cases e : i = 24 + j
    · rw [if_pos e, e]
    · rw [if_neg e]
      exact hi.1 i (by omega)
  replace s2 : zIb a p m 48 m2 := s2
  refine zs_160b hb (by omega) (by omega) (fun j mj => zIb a p m (48 + j) mj) s2 (fun j mj hj hi => ?_) (fun x2 m3 hx2 s3 => ?_)
  · refine ⟨fun i hi2 => ?_, zgr_u hi.2 (by omega)⟩
    rw [zr_a2 (by omega), zF_a (b := 48) (n := 6) (by omega) (by omega), zIb_row ha hi, show x1.toInt.toNat + j = p + (48 + j) by omega]
    by_cases e : i = 48 + j
    · rw [if_pos e, e]
    · rw [if_neg e]
      exact hi.1 i (by omega)
  replace s3 : zIb a p m 54 m3 := s3
  refine zs_160b hb (by omega) (by omega) (fun j mj => zIb a p m (54 + j) mj) s3 (fun j mj hj hi => ?_) (fun x3 m4 hx3 s4 => ?_)
  · refine ⟨fun i hi2 => ?_, zgr_u hi.2 (by omega)⟩
    rw [zr_a3 (by omega), zF_a (b := 54) (n := 6) (by omega) (by omega), zIb_row ha hi, show x2.toInt.toNat + j = p + (54 + j) by omega]
    by_cases e : i = 54 + j
    · rw [if_pos e, e]
    · rw [if_neg e]
      exact hi.1 i (by omega)
  replace s4 : zIb a p m 60 m4 := s4
  refine zs_160b hb (by omega) (by omega) (fun j mj => zIb a p m (60 + j) mj) s4 (fun j mj hj hi => ?_) (fun x4 m5 hx4 s5 => ?_)
  · refine ⟨fun i hi2 => ?_, zgr_u hi.2 (by omega)⟩
    rw [zr_a4 (by omega), zF_a (b := 60) (n := 6) (by omega) (by omega), zIb_row ha hi, show x3.toInt.toNat + j = p + (60 + j) by omega]
    by_cases e : i = 60 + j
    · rw [if_pos e, e]
    · rw [if_neg e]
      exact hi.1 i (by omega)
  replace s5 : zIb a p m 66 m5 := s5
  have lp : ∀ (k : Nat) (v : Int32) (mj : zf_Me), 0 ≤ v.toInt → v.toInt ≤ 5 → 5 - v.toInt < k → zIb a p m (66 + v.toInt.toNat) mj → wq_161_82 a n o b Q k x4 v mj := by
    intro k
    induction k with
    | zero => intro v mj k0 k1 k2; omega
    | succ k ih =>
      intro v mj k0 k1 k2 hi
      have sv := fb_addI (x := v) (y := 1) (by omega) (by omega)
      have sx := fb_addI (x := x4) (y := v) (by omega) (by omega)
      have s5 := fb_addI (x := x4) (y := 5) (by omega) (by omega)
      refine ⟨fun g => ⟨fun z => absurd z hb, fun _ => ?_⟩, fun g => ⟨fun z => absurd z hb, fun _ => ⟨by omega, zs_148 (by omega) (fun m48 z48 f48 => ih _ m48 (by omega) (by omega) (by omega) ⟨fun i hi2 => ?_, zgr_trans hi.2 f48⟩)⟩⟩⟩
      · rw [show v.toInt = 5 by omega] at hi
        replace hi : zIb a p m (66 + 5) mj := hi
        have b7 : 0 ≤ (x4 + 5).toInt ∧ (x4 + 5).toInt + 7 < n ∧ (x4 + 5).toInt ≤ 500 := by
          clear ha
          omega
        have f7 : (x4 + 5).toInt = (p : Int) + 71 := by
          clear ha b7
          omega
        refine ⟨⟨b7.1, by have := b7.2.1; omega⟩, fun m27 q27 => ⟨zs_inn e1 b7 (by decide), fun m29 q29 => ⟨zs_inn e2 b7 (by decide), fun m31 q31 => ⟨zs_inn e3 b7 (by decide), fun m33 q33 => ⟨zs_inn e4 b7 (by decide), fun m35 q35 => ⟨zs_inn e5 b7 (by decide), fun m37 q37 => ⟨zs_inn e6 b7 (by decide), fun m39 q39 => ⟨zs_inn e7 b7 (by decide), fun m41 q41 => ?_⟩⟩⟩⟩⟩⟩⟩⟩
        have i0 : zIb a p m (66 + (5 + 1)) m27 := by
          rw [q27]
          refine zIb_u hi zr_w0 (by decide) ?_
          rw [zIb_row ha hi, show (x4 + 5).toInt.toNat = p + (66 + 5) by have := f7; omega]
        have i1 : zIb a p m (66 + (6 + 1)) m29 := by
          rw [q29]
          refine zIb_u i0 zr_w1 (by decide) ?_
          rw [zIb_row ha i0, show (x4 + 5 + 1).toInt.toNat = p + (66 + 6) from zs_inq e1 f7 b7.2.2 (by decide)]
        have i2 : zIb a p m (66 + (7 + 1)) m31 := by
          rw [q31]
          refine zIb_u i1 zr_w2 (by decide) ?_
          rw [zIb_row ha i1, show (x4 + 5 + 2).toInt.toNat = p + (66 + 7) from zs_inq e2 f7 b7.2.2 (by decide)]
        have i3 : zIb a p m (66 + (8 + 1)) m33 := by
          rw [q33]
          refine zIb_u i2 zr_w3 (by decide) ?_
          rw [zIb_row ha i2, show (x4 + 5 + 3).toInt.toNat = p + (66 + 8) from zs_inq e3 f7 b7.2.2 (by decide)]
        have i4 : zIb a p m (66 + (9 + 1)) m35 := by
          rw [q35]
          refine zIb_u i3 zr_w6 (by decide) ?_
          rw [zIb_row ha i3, show (x4 + 5 + 4).toInt.toNat = p + (66 + 9) from zs_inq e4 f7 b7.2.2 (by decide)]
        have i5 : zIb a p m (66 + (10 + 1)) m37 := by
          rw [q37]
          refine zIb_u i4 zr_w10 (by decide) ?_
          rw [zIb_row ha i4, show (x4 + 5 + 5).toInt.toNat = p + (66 + 10) from zs_inq e5 f7 b7.2.2 (by decide)]
        have i6 : zIb a p m (66 + (11 + 1)) m39 := by
          rw [q39]
          refine zIb_u i5 zr_w11 (by decide) ?_
          rw [zIb_row ha i5, show (x4 + 5 + 6).toInt.toNat = p + (66 + 11) from zs_inq e6 f7 b7.2.2 (by decide)]
        have i7 : zIb a p m (66 + (12 + 1)) m41 := by
          rw [q41]
          refine zIb_u i6 zr_w12 (by decide) ?_
          rw [zIb_row ha i6, show (x4 + 5 + 7).toInt.toNat = p + (66 + 12) from zs_inq e7 f7 b7.2.2 (by decide)]
        refine hq m41 ?_ i7.2
        rw [← hp, ← zr_L (m := m41)]
        exact zL_ext (fun i hi => i7.1 i hi)
      · rw [z48, zF_u, zIb_row ha hi, show (x4 + v).toInt.toNat = p + (66 + v.toInt.toNat) by omega]
        by_cases e : i = 66 + v.toInt.toNat
        · rw [if_pos e, e]
        · rw [if_neg e]
          exact hi.1 i (by omega)
  exact ⟨7, lp 7 0 m5 (by decide) (by decide) (by decide) s5⟩
end
