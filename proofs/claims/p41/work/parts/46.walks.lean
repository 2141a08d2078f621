section
/-! part 46: walks as functions: what they are (zv: of the class, zr: of the reference), their bounds, what may be -/
abbrev zS : Type := Nat → Nat → Int
def zN (n : Nat) (a : Nat → Int32) (k : Nat) : Int := if k < n then (a k).toInt else 0
def zU (f : zS) (c k : Nat) (x : Int) : zS := fun a b => if a = c ∧ b = k then x else f a b
def zv (w y r : Nat) (m : zf_Me) : zS := fun c k => match c with
  | 0 => zN 24 (m.1 (y + 1)) k
  | 1 => zN 24 (m.1 (y + 2)) k
  | 2 => zN 6 (m.1 (y + 3)) k
  | 3 => zN 6 (m.1 (y + 4)) k
  | 4 => zN 6 (m.1 r) k
  | 5 => (match k with
    | 0 => (m.1 w 3).toInt
    | 1 => (m.1 w 5).toInt
    | 2 => (m.1 w 9).toInt
    | 3 => (m.1 w 7).toInt
    | 4 => (m.1 w 8).toInt
    | 5 => (m.1 y 4).toInt
    | 6 => (m.1 y 5).toInt
    | 7 => (m.1 w 2).toInt
    | 8 => (m.1 w 4).toInt
    | 9 => (m.1 w 6).toInt
    | 10 => (m.1 w 10).toInt
    | 11 => (m.1 w 11).toInt
    | 12 => (m.1 w 12).toInt
    | _ => 0)
  | _ => 0
def zr (m : zf_Me) : zS := fun c k => match c with
  | 0 => zN 24 (m.1 65) k
  | 1 => zN 24 (m.1 66) k
  | 2 => zN 6 (m.1 67) k
  | 3 => zN 6 (m.1 68) k
  | 4 => zN 6 (m.1 69) k
  | 5 => (match k with
    | 0 => (m.1 63 4).toInt
    | 1 => (m.1 63 5).toInt
    | 2 => (m.1 63 9).toInt
    | 3 => (m.1 63 7).toInt
    | 4 => (m.1 63 8).toInt
    | 5 => (m.1 63 0).toInt
    | 6 => (m.1 63 1).toInt
    | 7 => (m.1 63 2).toInt
    | 8 => (m.1 63 3).toInt
    | 9 => (m.1 63 6).toInt
    | 10 => (m.1 63 10).toInt
    | 11 => (m.1 63 11).toInt
    | 12 => (m.1 63 12).toInt
    | _ => 0)
  | _ => 0
/-- bounds of the single numbers: most nap worn biscuits races furlongs people bag legs on here minutes seed -/
abbrev zB1 (mo na wo bi ra fu pe bg le on he mi se : Int) : Prop := (1 ≤ mo ∧ mo ≤ 9 ∧ 1 ≤ na ∧ na ≤ 9 ∧ 1 ≤ wo ∧ wo ≤ 99 ∧ 0 ≤ bi ∧ bi ≤ 9 ∧ 0 ≤ ra ∧ ra ≤ 9) ∧ (0 ≤ fu ∧ fu ≤ 24 ∧ 0 ≤ pe ∧ pe ≤ 6 ∧ -1 ≤ bg ∧ bg ≤ 5 ∧ 0 ≤ le ∧ le ≤ 11) ∧ 0 ≤ on ∧ on ≤ he ∧ 0 ≤ he ∧ he ≤ fu ∧ 0 ≤ mi ∧ mi ≤ 910 + 12 * he ∧ -2147483648 ≤ se ∧ se < 2147483648
abbrev zB2 (f : zS) : Prop := ∀ k, k < 24 → -3 ≤ f 0 k ∧ f 0 k ≤ 3 ∧ 0 ≤ f 1 k ∧ f 1 k ≤ 1
abbrev zB3 (f : zS) : Prop := ∀ k, k < 6 → 0 ≤ f 2 k ∧ f 2 k ≤ 6 ∧ 0 ≤ f 3 k ∧ f 3 k ≤ 9 ∧ 0 ≤ f 4 k ∧ f 4 k ≤ 99
def zB (f : zS) : Prop := zB1 (f 5 0) (f 5 1) (f 5 2) (f 5 3) (f 5 4) (f 5 5) (f 5 6) (f 5 7) (f 5 8) (f 5 9) (f 5 10) (f 5 11) (f 5 12) ∧ zB2 f ∧ zB3 f
abbrev zbv (w y : Nat) (m : zf_Me) : Prop := zB1 (m.1 w 3).toInt (m.1 w 5).toInt (m.1 w 9).toInt (m.1 w 7).toInt (m.1 w 8).toInt (m.1 y 4).toInt (m.1 y 5).toInt (m.1 w 2).toInt (m.1 w 4).toInt (m.1 w 6).toInt (m.1 w 10).toInt (m.1 w 11).toInt (m.1 w 12).toInt
abbrev zbr (m : zf_Me) : Prop := zB1 (m.1 63 4).toInt (m.1 63 5).toInt (m.1 63 9).toInt (m.1 63 7).toInt (m.1 63 8).toInt (m.1 63 0).toInt (m.1 63 1).toInt (m.1 63 2).toInt (m.1 63 3).toInt (m.1 63 6).toInt (m.1 63 10).toInt (m.1 63 11).toInt (m.1 63 12).toInt
section
variable {w y r : Nat} {m : zf_Me}
theorem zB_v (h : zB (zv w y r m)) : zbv w y m := h.1
theorem zB_r (h : zB (zr m)) : zbr m := h.1
theorem zN_lt {n k : Nat} {a : Nat → Int32} (h : k < n) : zN n a k = (a k).toInt := if_pos h
theorem zB_v2 (h : zB (zv w y r m)) {k : Nat} (hk : k < 24) : -3 ≤ (m.1 (y + 1) k).toInt ∧ (m.1 (y + 1) k).toInt ≤ 3 ∧ 0 ≤ (m.1 (y + 2) k).toInt ∧ (m.1 (y + 2) k).toInt ≤ 1 := by
  have e := h.2.1 k hk
  have a0 : zv w y r m 0 k = (m.1 (y + 1) k).toInt := zN_lt hk
  have a1 : zv w y r m 1 k = (m.1 (y + 2) k).toInt := zN_lt hk
  rw [a0, a1] at e
  exact e
theorem zB_v3 (h : zB (zv w y r m)) {k : Nat} (hk : k < 6) : 0 ≤ (m.1 (y + 3) k).toInt ∧ (m.1 (y + 3) k).toInt ≤ 6 ∧ 0 ≤ (m.1 (y + 4) k).toInt ∧ (m.1 (y + 4) k).toInt ≤ 9 ∧ 0 ≤ (m.1 r k).toInt ∧ (m.1 r k).toInt ≤ 99 := by
  have e := h.2.2 k hk
  have a2 : zv w y r m 2 k = (m.1 (y + 3) k).toInt := zN_lt hk
  have a3 : zv w y r m 3 k = (m.1 (y + 4) k).toInt := zN_lt hk
  have a4 : zv w y r m 4 k = (m.1 r k).toInt := zN_lt hk
  rw [a2, a3, a4] at e
  exact e
theorem zB_r2 (h : zB (zr m)) {k : Nat} (hk : k < 24) : -3 ≤ (m.1 65 k).toInt ∧ (m.1 65 k).toInt ≤ 3 ∧ 0 ≤ (m.1 66 k).toInt ∧ (m.1 66 k).toInt ≤ 1 := by
  have e := h.2.1 k hk
  have a0 : zr m 0 k = (m.1 65 k).toInt := zN_lt hk
  have a1 : zr m 1 k = (m.1 66 k).toInt := zN_lt hk
  rw [a0, a1] at e
  exact e
theorem zB_r3 (h : zB (zr m)) {k : Nat} (hk : k < 6) : 0 ≤ (m.1 67 k).toInt ∧ (m.1 67 k).toInt ≤ 6 ∧ 0 ≤ (m.1 68 k).toInt ∧ (m.1 68 k).toInt ≤ 9 ∧ 0 ≤ (m.1 69 k).toInt ∧ (m.1 69 k).toInt ≤ 99 := by
  have e := h.2.2 k hk
  have a2 : zr m 2 k = (m.1 67 k).toInt := zN_lt hk
  have a3 : zr m 3 k = (m.1 68 k).toInt := zN_lt hk
  have a4 : zr m 4 k = (m.1 69 k).toInt := zN_lt hk
  rw [a2, a3, a4] at e
  exact e
end
theorem zb_t {p : Prop} (h : p) : (true = true ↔ p) := iff_of_true rfl h
theorem zb_f {p : Prop} (h : ¬ p) : (false = true ↔ p) := iff_of_false (by decide) h
def zmore (k : Int) : Int := if k = 1 then -1 else if k = 2 then 1 else if k = 3 then -2 else if k = 4 then 2 else if k = 6 then 2 else 0
theorem zk_more : ∀ k : Nat, k < 7 → ((zx_sa.getD 1 []).getD k 0).toInt = zmore k := by decide
theorem zmore_b (k : Int) : -2 ≤ zmore k ∧ zmore k ≤ 2 := by
  unfold zmore
  repeat' split
  all_goals omega
abbrev zld (k t v : Int) (b : Prop) [Decidable b] : Int := 4 + v + zmore k + (if k = 6 then t / 10 else 0) + (if b then 2 else 0)
def zload (f : zS) (p : Nat) (v : Int) : Int := if zld (f 2 p) (f 4 p) v (f 5 7 = p) < 1 then 1 else zld (f 2 p) (f 4 p) v (f 5 7 = p)
def zslope (f : zS) : Int := f 0 (f 5 10).toNat
abbrev zcarryOk (f : zS) (p : Int) : Prop := (0 ≤ p ∧ p < f 5 6) ∧ f 5 10 < f 5 5 ∧ ¬ ((f 2 p.toNat = 2 ∨ f 2 p.toNat = 5) ∧ f 5 9 < f 5 1) ∧ ¬ (f 2 p.toNat = 6 ∧ 1 < zslope f) ∧ f 4 p.toNat + zload f p.toNat (zslope f) ≤ f 5 2
abbrev zwalkOk (f : zS) : Prop := f 5 10 < f 5 5 ∧ f 5 9 < f 5 1
abbrev zrestOk (f : zS) : Prop := f 5 11 ≤ 900 ∧ (f 5 10 = 0 ∨ f 1 (f 5 10 - 1).toNat = 1)
abbrev zmay (f : zS) (a : Int) : Prop := (a = 6 ∧ zwalkOk f ∧ 1 ≤ f 5 8) ∨ (a = 7 ∧ zwalkOk f ∧ 1 ≤ f 5 3) ∨ (a = 8 ∧ zwalkOk f ∧ 1 ≤ f 5 4) ∨ (a = 9 ∧ zrestOk f) ∨ (¬ a = 6 ∧ ¬ a = 7 ∧ ¬ a = 8 ∧ ¬ a = 9 ∧ zcarryOk f a)
theorem zf_divI {x : Int32} (h : 0 ≤ x.toInt) : (x / 10).toInt = x.toInt / 10 := by
  have e : (10 : Int32).toInt = 10 := rfl
  rw [Int32.toInt_div, e, Int.tdiv_eq_ediv_of_nonneg h]
  have := fb_rng x
  exact fb_bmod (by omega) (by omega)
section
variable {w y r : Nat} {m : zf_Me}
theorem zs_47 {Q : Bool → zf_Me → Prop} (hq : ∀ b, (b = true ↔ ¬ (m.1 w 10).toInt < (m.1 y 4).toInt) → Q b m) : wp_47 w y r m Q :=
  ⟨fun g => hq false (zb_f (by omega)), fun g => hq true (zb_t (by omega))⟩
theorem zs_48 {Q : Bool → zf_Me → Prop} (hq : ∀ b, (b = true ↔ ¬ (m.1 w 6).toInt < (m.1 w 5).toInt) → Q b m) : wp_48 w y r m Q :=
  ⟨fun g => hq false (zb_f (by omega)), fun g => hq true (zb_t (by omega))⟩
theorem zs_54 {Q : Bool → zf_Me → Prop} (hq : ∀ b, (b = true ↔ zwalkOk (zv w y r m)) → Q b m) : wp_54 w y r m Q := by
  refine zs_47 (fun b hb => ⟨fun e => ?_, fun e => zs_48 (fun b2 h2 => ⟨fun e2 => ?_, fun e2 => ?_⟩)⟩)
  · refine hq false (zb_f (fun z => ?_))
    exact (hb.mp e) z.1
  · refine hq false (zb_f (fun z => ?_))
    exact (h2.mp e2) z.2
  · refine hq true (zb_t ⟨?_, ?_⟩)
    · exact Decidable.byContradiction (fun z => by rw [hb.mpr z] at e; cases e)
    · exact Decidable.byContradiction (fun z => by rw [h2.mpr z] at e2; cases e2)
theorem zs_55 (hB : zB (zv w y r m)) {Q : Bool → zf_Me → Prop} (hq : ∀ b, (b = true ↔ zrestOk (zv w y r m)) → Q b m) : wp_55 w y r m Q := by
  have b := zB_v hB
  have e1 : (1 : Int32).toInt = 1 := rfl
  have es := fb_subI (x := m.1 w 10) (y := 1) (by omega) (by omega)
  rw [e1] at es
  have hn : ∀ z : zrestOk (zv w y r m), (m.1 w 11).toInt ≤ 900 ∧ ((m.1 w 10).toInt = 0 ∨ zv w y r m 1 ((m.1 w 10).toInt - 1).toNat = 1) := fun z => z
  have hi : ∀ z : ¬ (m.1 w 10).toInt = 0, zv w y r m 1 ((m.1 w 10).toInt - 1).toNat = (m.1 (y + 2) (Int32.toInt ((m.1 w 10) - 1)).toNat).toInt := fun z => by
    rw [es]
    exact zN_lt (by omega)
  refine ⟨fun g => hq false (zb_f (fun z => ?_)), fun g => ⟨fun g2 => hq true (zb_t ⟨g, Or.inl g2⟩), fun g2 => ⟨⟨by omega, by omega⟩, fun g3 => hq false (zb_f (fun z => ?_)), fun g3 => hq true (zb_t ⟨g, Or.inr ?_⟩)⟩⟩⟩
  · have := (hn z).1
    omega
  · have := (hn z).2
    rw [hi g2] at this
    omega
  · exact (hi g2).trans g3
theorem zs_65 {v : Int32} {Q : Bool → zf_Me → Prop} (hq : ∀ b, (b = true ↔ 0 ≤ v.toInt ∧ v.toInt < (m.1 y 5).toInt) → Q b m) : wp_65 y v m Q :=
  ⟨fun g => hq false (zb_f (by omega)), fun g => ⟨fun g2 => hq false (zb_f (by omega)), fun g2 => hq true (zb_t (by omega))⟩⟩
theorem zs_51 (hB : zB (zv w y r m)) {p v : Int32} (hp : 0 ≤ p.toInt ∧ p.toInt < 6) (hv : -3 ≤ v.toInt ∧ v.toInt ≤ 3) {Q : Int32 → zf_Me → Prop} (hq : ∀ x : Int32, x.toInt = zload (zv w y r m) p.toInt.toNat v.toInt → Q x m) : wp_51 w y r p v m Q := by
  have b3 := zB_v3 hB (k := p.toInt.toNat) (by omega)
  have e4 : (4 : Int32).toInt = 4 := rfl
  have e2 : (2 : Int32).toInt = 2 := rfl
  have a2 : zv w y r m 2 p.toInt.toNat = (m.1 (y + 3) p.toInt.toNat).toInt := zN_lt (by omega)
  have a4 : zv w y r m 4 p.toInt.toNat = (m.1 r p.toInt.toNat).toInt := zN_lt (by omega)
  have a7 : zv w y r m 5 7 = (m.1 w 2).toInt := rfl
  have hm := zk_more (m.1 (y + 3) p.toInt.toNat).toInt.toNat (by omega)
  rw [show (((m.1 (y + 3) p.toInt.toNat).toInt.toNat : Nat) : Int) = (m.1 (y + 3) p.toInt.toNat).toInt by omega] at hm
  have hb := zmore_b (m.1 (y + 3) p.toInt.toNat).toInt
  have s1 := fb_addI (x := 4) (y := v) (by omega) (by omega)
  have s2 := fb_addI (x := 4 + v) (y := (zx_sa.getD 1 []).getD (m.1 (y + 3) p.toInt.toNat).toInt.toNat 0) (by omega) (by omega)
  have tl : ∀ x : Int32, x.toInt = 4 + v.toInt + zmore (m.1 (y + 3) p.toInt.toNat).toInt + (if (m.1 (y + 3) p.toInt.toNat).toInt = 6 then (m.1 r p.toInt.toNat).toInt / 10 else 0) → wq_51_41 w y r p v x m Q := by
    intro x hx
    have hd : 0 ≤ (if (m.1 (y + 3) p.toInt.toNat).toInt = 6 then (m.1 r p.toInt.toNat).toInt / 10 else 0) ∧ (if (m.1 (y + 3) p.toInt.toNat).toInt = 6 then (m.1 r p.toInt.toNat).toInt / 10 else 0) ≤ 10 := by split <;> omega
    have s4 := fb_addI (x := x) (y := 2) (by omega) (by omega)
    have fin : ∀ z : Int32, z.toInt = zld (m.1 (y + 3) p.toInt.toNat).toInt (m.1 r p.toInt.toNat).toInt v.toInt ((m.1 w 2).toInt = (p.toInt.toNat : Int)) → wq_51_52 w y r p v z m Q := by
      intro z hz
      refine ⟨fun g => hq z ?_, fun g => hq 1 ?_⟩
      · unfold zload
        rw [a2, a4, a7, ← hz, if_neg (by omega)]
      · unfold zload
        rw [a2, a4, a7, ← hz, if_pos (by omega)]
        rfl
    refine ⟨fun g => fin x ?_, fun g => fin _ ?_⟩
    · rw [hx]
      unfold zld
      rw [if_neg (c := (m.1 w 2).toInt = _) (by omega)]
      omega
    · rw [s4, hx]
      unfold zld
      rw [if_pos (c := (m.1 w 2).toInt = _) (by omega)]
      omega
  refine ⟨⟨by omega, by omega⟩, ⟨by omega, by omega⟩, fun g => tl _ ?_, fun g => ⟨⟨by omega, by omega⟩, tl _ ?_⟩⟩
  · rw [s2, s1, e4, hm, if_neg g]
    omega
  · have hd := zf_divI (x := m.1 r p.toInt.toNat) (by omega)
    rw [fb_addI (by omega) (by omega), s2, s1, e4, hm, if_pos g, hd]
end
end
section
/-! part 47: what a store does to a walk as a function: laid by wip/flat/w47.py -/
abbrev zD (w y r : Nat) : Prop := ¬ r = w ∧ (r < y ∨ y + 4 < r) ∧ (w < y ∨ y + 4 < w)
section
variable {m : zf_Me} {c k a : Nat} {x : Int32}
theorem zf_u1 (h : ¬ a = c) : (zf_u m c k x).1 a = m.1 a := if_neg h
theorem zf_u2 : (zf_u m c k x).1 c = fun b => if b = k then x else m.1 c b := if_pos rfl
theorem zf_u3 : (zf_u m c k x).1 c k = x := by rw [zf_u2]; exact if_pos rfl
theorem zf_u4 {b : Nat} (h : ¬ b = k) : (zf_u m c k x).1 c b = m.1 c b := by rw [zf_u2]; exact if_neg h
theorem zN_up {n k : Nat} {a : Nat → Int32} {x : Int32} (hk : k < n) (j : Nat) : zN n (fun b => if b = k then x else a b) j = if j = k then x.toInt else zN n a j := by
  show (if j < n then (if j = k then x else a j).toInt else 0) = if j = k then x.toInt else if j < n then (a j).toInt else 0
  by_cases e : j = k
  · subst e
    rw [if_pos hk, if_pos rfl, if_pos rfl]
  · rw [if_neg e, if_neg e]
theorem zU_s {f : zS} {c k : Nat} {x : Int} : zU f c k x c k = x := if_pos ⟨rfl, rfl⟩
theorem zU_o {f : zS} {c k a b : Nat} {x : Int} (h : ¬ (a = c ∧ b = k)) : zU f c k x a b = f a b := if_neg h
theorem zi_max {x y : Int32} : (if x < y then y else x).toInt = if x.toInt < y.toInt then y.toInt else x.toInt := by
  by_cases h : x < y
  · rw [if_pos h, if_pos (zi_lt.mp h)]
  · rw [if_neg h, if_neg (fun z => h (zi_lt.mpr z))]
theorem zi_min {x y : Int32} : (if y < x then y else x).toInt = if y.toInt < x.toInt then y.toInt else x.toInt := by
  by_cases h : y < x
  · rw [if_pos h, if_pos (zi_lt.mp h)]
  · rw [if_neg h, if_neg (fun z => h (zi_lt.mpr z))]
theorem zi_inj {x y : Int32} (h : x.toInt = y.toInt) : x = y := Int32.toInt_inj.mp h
end
section
variable {w y r : Nat} {m : zf_Me} {x : Int32}
theorem zv_w3 (hd : zD w y r) : zv w y r (zf_u m w 3 x) = zU (zv w y r m) 5 0 x.toInt := by
  funext c k
  match c with
  | 0 =>
    show zN 24 ((zf_u m w 3 x).1 (y + 1)) k = zN 24 (m.1 (y + 1)) k
    rw [zf_u1 (by omega)]
  | 1 =>
    show zN 24 ((zf_u m w 3 x).1 (y + 2)) k = zN 24 (m.1 (y + 2)) k
    rw [zf_u1 (by omega)]
  | 2 =>
    show zN 6 ((zf_u m w 3 x).1 (y + 3)) k = zN 6 (m.1 (y + 3)) k
    rw [zf_u1 (by omega)]
  | 3 =>
    show zN 6 ((zf_u m w 3 x).1 (y + 4)) k = zN 6 (m.1 (y + 4)) k
    rw [zf_u1 (by omega)]
  | 4 =>
    show zN 6 ((zf_u m w 3 x).1 r) k = zN 6 (m.1 r) k
    rw [zf_u1 (by omega)]
  | 5 =>
    match k with
    | 0 => show ((zf_u m w 3 x).1 w 3).toInt = _; rw [zf_u3]; rfl
    | 1 => show ((zf_u m w 3 x).1 w 5).toInt = (m.1 w 5).toInt; rw [zf_u4 (by decide)]
    | 2 => show ((zf_u m w 3 x).1 w 9).toInt = (m.1 w 9).toInt; rw [zf_u4 (by decide)]
    | 3 => show ((zf_u m w 3 x).1 w 7).toInt = (m.1 w 7).toInt; rw [zf_u4 (by decide)]
    | 4 => show ((zf_u m w 3 x).1 w 8).toInt = (m.1 w 8).toInt; rw [zf_u4 (by decide)]
    | 5 => show ((zf_u m w 3 x).1 y 4).toInt = (m.1 y 4).toInt; rw [zf_u1 (by omega)]
    | 6 => show ((zf_u m w 3 x).1 y 5).toInt = (m.1 y 5).toInt; rw [zf_u1 (by omega)]
    | 7 => show ((zf_u m w 3 x).1 w 2).toInt = (m.1 w 2).toInt; rw [zf_u4 (by decide)]
    | 8 => show ((zf_u m w 3 x).1 w 4).toInt = (m.1 w 4).toInt; rw [zf_u4 (by decide)]
    | 9 => show ((zf_u m w 3 x).1 w 6).toInt = (m.1 w 6).toInt; rw [zf_u4 (by decide)]
    | 10 => show ((zf_u m w 3 x).1 w 10).toInt = (m.1 w 10).toInt; rw [zf_u4 (by decide)]
    | 11 => show ((zf_u m w 3 x).1 w 11).toInt = (m.1 w 11).toInt; rw [zf_u4 (by decide)]
    | 12 => show ((zf_u m w 3 x).1 w 12).toInt = (m.1 w 12).toInt; rw [zf_u4 (by decide)]
    | n + 13 => rfl
  | n + 6 => rfl
theorem zv_w5 (hd : zD w y r) : zv w y r (zf_u m w 5 x) = zU (zv w y r m) 5 1 x.toInt := by
  funext c k
  match c with
  | 0 =>
    show zN 24 ((zf_u m w 5 x).1 (y + 1)) k = zN 24 (m.1 (y + 1)) k
    rw [zf_u1 (by omega)]
  | 1 =>
    show zN 24 ((zf_u m w 5 x).1 (y + 2)) k = zN 24 (m.1 (y + 2)) k
    rw [zf_u1 (by omega)]
  | 2 =>
    show zN 6 ((zf_u m w 5 x).1 (y + 3)) k = zN 6 (m.1 (y + 3)) k
    rw [zf_u1 (by omega)]
  | 3 =>
    show zN 6 ((zf_u m w 5 x).1 (y + 4)) k = zN 6 (m.1 (y + 4)) k
    rw [zf_u1 (by omega)]
  | 4 =>
    show zN 6 ((zf_u m w 5 x).1 r) k = zN 6 (m.1 r) k
    rw [zf_u1 (by omega)]
  | 5 =>
    match k with
    | 0 => show ((zf_u m w 5 x).1 w 3).toInt = (m.1 w 3).toInt; rw [zf_u4 (by decide)]
    | 1 => show ((zf_u m w 5 x).1 w 5).toInt = _; rw [zf_u3]; rfl
    | 2 => show ((zf_u m w 5 x).1 w 9).toInt = (m.1 w 9).toInt; rw [zf_u4 (by decide)]
    | 3 => show ((zf_u m w 5 x).1 w 7).toInt = (m.1 w 7).toInt; rw [zf_u4 (by decide)]
    | 4 => show ((zf_u m w 5 x).1 w 8).toInt = (m.1 w 8).toInt; rw [zf_u4 (by decide)]
    | 5 => show ((zf_u m w 5 x).1 y 4).toInt = (m.1 y 4).toInt; rw [zf_u1 (by omega)]
    | 6 => show ((zf_u m w 5 x).1 y 5).toInt = (m.1 y 5).toInt; rw [zf_u1 (by omega)]
    | 7 => show ((zf_u m w 5 x).1 w 2).toInt = (m.1 w 2).toInt; rw [zf_u4 (by decide)]
    | 8 => show ((zf_u m w 5 x).1 w 4).toInt = (m.1 w 4).toInt; rw [zf_u4 (by decide)]
    | 9 => show ((zf_u m w 5 x).1 w 6).toInt = (m.1 w 6).toInt; rw [zf_u4 (by decide)]
    | 10 => show ((zf_u m w 5 x).1 w 10).toInt = (m.1 w 10).toInt; rw [zf_u4 (by decide)]
    | 11 => show ((zf_u m w 5 x).1 w 11).toInt = (m.1 w 11).toInt; rw [zf_u4 (by decide)]
    | 12 => show ((zf_u m w 5 x).1 w 12).toInt = (m.1 w 12).toInt; rw [zf_u4 (by decide)]
    | n + 13 => rfl
  | n + 6 => rfl
theorem zv_w9 (hd : zD w y r) : zv w y r (zf_u m w 9 x) = zU (zv w y r m) 5 2 x.toInt := by
  funext c k
  match c with
  | 0 =>
    show zN 24 ((zf_u m w 9 x).1 (y + 1)) k = zN 24 (m.1 (y + 1)) k
    rw [zf_u1 (by omega)]
  | 1 =>
    show zN 24 ((zf_u m w 9 x).1 (y + 2)) k = zN 24 (m.1 (y + 2)) k
    rw [zf_u1 (by omega)]
  | 2 =>
    show zN 6 ((zf_u m w 9 x).1 (y + 3)) k = zN 6 (m.1 (y + 3)) k
    rw [zf_u1 (by omega)]
  | 3 =>
    show zN 6 ((zf_u m w 9 x).1 (y + 4)) k = zN 6 (m.1 (y + 4)) k
    rw [zf_u1 (by omega)]
  | 4 =>
    show zN 6 ((zf_u m w 9 x).1 r) k = zN 6 (m.1 r) k
    rw [zf_u1 (by omega)]
  | 5 =>
    match k with
    | 0 => show ((zf_u m w 9 x).1 w 3).toInt = (m.1 w 3).toInt; rw [zf_u4 (by decide)]
    | 1 => show ((zf_u m w 9 x).1 w 5).toInt = (m.1 w 5).toInt; rw [zf_u4 (by decide)]
    | 2 => show ((zf_u m w 9 x).1 w 9).toInt = _; rw [zf_u3]; rfl
    | 3 => show ((zf_u m w 9 x).1 w 7).toInt = (m.1 w 7).toInt; rw [zf_u4 (by decide)]
    | 4 => show ((zf_u m w 9 x).1 w 8).toInt = (m.1 w 8).toInt; rw [zf_u4 (by decide)]
    | 5 => show ((zf_u m w 9 x).1 y 4).toInt = (m.1 y 4).toInt; rw [zf_u1 (by omega)]
    | 6 => show ((zf_u m w 9 x).1 y 5).toInt = (m.1 y 5).toInt; rw [zf_u1 (by omega)]
    | 7 => show ((zf_u m w 9 x).1 w 2).toInt = (m.1 w 2).toInt; rw [zf_u4 (by decide)]
    | 8 => show ((zf_u m w 9 x).1 w 4).toInt = (m.1 w 4).toInt; rw [zf_u4 (by decide)]
    | 9 => show ((zf_u m w 9 x).1 w 6).toInt = (m.1 w 6).toInt; rw [zf_u4 (by decide)]
    | 10 => show ((zf_u m w 9 x).1 w 10).toInt = (m.1 w 10).toInt; rw [zf_u4 (by decide)]
    | 11 => show ((zf_u m w 9 x).1 w 11).toInt = (m.1 w 11).toInt; rw [zf_u4 (by decide)]
    | 12 => show ((zf_u m w 9 x).1 w 12).toInt = (m.1 w 12).toInt; rw [zf_u4 (by decide)]
    | n + 13 => rfl
  | n + 6 => rfl
theorem zv_w7 (hd : zD w y r) : zv w y r (zf_u m w 7 x) = zU (zv w y r m) 5 3 x.toInt := by
  funext c k
  match c with
  | 0 =>
    show zN 24 ((zf_u m w 7 x).1 (y + 1)) k = zN 24 (m.1 (y + 1)) k
    rw [zf_u1 (by omega)]
  | 1 =>
    show zN 24 ((zf_u m w 7 x).1 (y + 2)) k = zN 24 (m.1 (y + 2)) k
    rw [zf_u1 (by omega)]
  | 2 =>
    show zN 6 ((zf_u m w 7 x).1 (y + 3)) k = zN 6 (m.1 (y + 3)) k
    rw [zf_u1 (by omega)]
  | 3 =>
    show zN 6 ((zf_u m w 7 x).1 (y + 4)) k = zN 6 (m.1 (y + 4)) k
    rw [zf_u1 (by omega)]
  | 4 =>
    show zN 6 ((zf_u m w 7 x).1 r) k = zN 6 (m.1 r) k
    rw [zf_u1 (by omega)]
  | 5 =>
    match k with
    | 0 => show ((zf_u m w 7 x).1 w 3).toInt = (m.1 w 3).toInt; rw [zf_u4 (by decide)]
    | 1 => show ((zf_u m w 7 x).1 w 5).toInt = (m.1 w 5).toInt; rw [zf_u4 (by decide)]
    | 2 => show ((zf_u m w 7 x).1 w 9).toInt = (m.1 w 9).toInt; rw [zf_u4 (by decide)]
    | 3 => show ((zf_u m w 7 x).1 w 7).toInt = _; rw [zf_u3]; rfl
    | 4 => show ((zf_u m w 7 x).1 w 8).toInt = (m.1 w 8).toInt; rw [zf_u4 (by decide)]
    | 5 => show ((zf_u m w 7 x).1 y 4).toInt = (m.1 y 4).toInt; rw [zf_u1 (by omega)]
    | 6 => show ((zf_u m w 7 x).1 y 5).toInt = (m.1 y 5).toInt; rw [zf_u1 (by omega)]
    | 7 => show ((zf_u m w 7 x).1 w 2).toInt = (m.1 w 2).toInt; rw [zf_u4 (by decide)]
    | 8 => show ((zf_u m w 7 x).1 w 4).toInt = (m.1 w 4).toInt; rw [zf_u4 (by decide)]
    | 9 => show ((zf_u m w 7 x).1 w 6).toInt = (m.1 w 6).toInt; rw [zf_u4 (by decide)]
    | 10 => show ((zf_u m w 7 x).1 w 10).toInt = (m.1 w 10).toInt; rw [zf_u4 (by decide)]
    | 11 => show ((zf_u m w 7 x).1 w 11).toInt = (m.1 w 11).toInt; rw [zf_u4 (by decide)]
    | 12 => show ((zf_u m w 7 x).1 w 12).toInt = (m.1 w 12).toInt; rw [zf_u4 (by decide)]
    | n + 13 => rfl
  | n + 6 => rfl
theorem zv_w8 (hd : zD w y r) : zv w y r (zf_u m w 8 x) = zU (zv w y r m) 5 4 x.toInt := by
  funext c k
  match c with
  | 0 =>
    show zN 24 ((zf_u m w 8 x).1 (y + 1)) k = zN 24 (m.1 (y + 1)) k
    rw [zf_u1 (by omega)]
  | 1 =>
    show zN 24 ((zf_u m w 8 x).1 (y + 2)) k = zN 24 (m.1 (y + 2)) k
    rw [zf_u1 (by omega)]
  | 2 =>
    show zN 6 ((zf_u m w 8 x).1 (y + 3)) k = zN 6 (m.1 (y + 3)) k
    rw [zf_u1 (by omega)]
  | 3 =>
    show zN 6 ((zf_u m w 8 x).1 (y + 4)) k = zN 6 (m.1 (y + 4)) k
    rw [zf_u1 (by omega)]
  | 4 =>
    show zN 6 ((zf_u m w 8 x).1 r) k = zN 6 (m.1 r) k
    rw [zf_u1 (by omega)]
  | 5 =>
    match k with
    | 0 => show ((zf_u m w 8 x).1 w 3).toInt = (m.1 w 3).toInt; rw [zf_u4 (by decide)]
    | 1 => show ((zf_u m w 8 x).1 w 5).toInt = (m.1 w 5).toInt; rw [zf_u4 (by decide)]
    | 2 => show ((zf_u m w 8 x).1 w 9).toInt = (m.1 w 9).toInt; rw [zf_u4 (by decide)]
    | 3 => show ((zf_u m w 8 x).1 w 7).toInt = (m.1 w 7).toInt; rw [zf_u4 (by decide)]
    | 4 => show ((zf_u m w 8 x).1 w 8).toInt = _; rw [zf_u3]; rfl
    | 5 => show ((zf_u m w 8 x).1 y 4).toInt = (m.1 y 4).toInt; rw [zf_u1 (by omega)]
    | 6 => show ((zf_u m w 8 x).1 y 5).toInt = (m.1 y 5).toInt; rw [zf_u1 (by omega)]
    | 7 => show ((zf_u m w 8 x).1 w 2).toInt = (m.1 w 2).toInt; rw [zf_u4 (by decide)]
    | 8 => show ((zf_u m w 8 x).1 w 4).toInt = (m.1 w 4).toInt; rw [zf_u4 (by decide)]
    | 9 => show ((zf_u m w 8 x).1 w 6).toInt = (m.1 w 6).toInt; rw [zf_u4 (by decide)]
    | 10 => show ((zf_u m w 8 x).1 w 10).toInt = (m.1 w 10).toInt; rw [zf_u4 (by decide)]
    | 11 => show ((zf_u m w 8 x).1 w 11).toInt = (m.1 w 11).toInt; rw [zf_u4 (by decide)]
    | 12 => show ((zf_u m w 8 x).1 w 12).toInt = (m.1 w 12).toInt; rw [zf_u4 (by decide)]
    | n + 13 => rfl
  | n + 6 => rfl
theorem zv_w2 (hd : zD w y r) : zv w y r (zf_u m w 2 x) = zU (zv w y r m) 5 7 x.toInt := by
  funext c k
  match c with
  | 0 =>
    show zN 24 ((zf_u m w 2 x).1 (y + 1)) k = zN 24 (m.1 (y + 1)) k
    rw [zf_u1 (by omega)]
  | 1 =>
    show zN 24 ((zf_u m w 2 x).1 (y + 2)) k = zN 24 (m.1 (y + 2)) k
    rw [zf_u1 (by omega)]
  | 2 =>
    show zN 6 ((zf_u m w 2 x).1 (y + 3)) k = zN 6 (m.1 (y + 3)) k
    rw [zf_u1 (by omega)]
  | 3 =>
    show zN 6 ((zf_u m w 2 x).1 (y + 4)) k = zN 6 (m.1 (y + 4)) k
    rw [zf_u1 (by omega)]
  | 4 =>
    show zN 6 ((zf_u m w 2 x).1 r) k = zN 6 (m.1 r) k
    rw [zf_u1 (by omega)]
  | 5 =>
    match k with
    | 0 => show ((zf_u m w 2 x).1 w 3).toInt = (m.1 w 3).toInt; rw [zf_u4 (by decide)]
    | 1 => show ((zf_u m w 2 x).1 w 5).toInt = (m.1 w 5).toInt; rw [zf_u4 (by decide)]
    | 2 => show ((zf_u m w 2 x).1 w 9).toInt = (m.1 w 9).toInt; rw [zf_u4 (by decide)]
    | 3 => show ((zf_u m w 2 x).1 w 7).toInt = (m.1 w 7).toInt; rw [zf_u4 (by decide)]
    | 4 => show ((zf_u m w 2 x).1 w 8).toInt = (m.1 w 8).toInt; rw [zf_u4 (by decide)]
    | 5 => show ((zf_u m w 2 x).1 y 4).toInt = (m.1 y 4).toInt; rw [zf_u1 (by omega)]
    | 6 => show ((zf_u m w 2 x).1 y 5).toInt = (m.1 y 5).toInt; rw [zf_u1 (by omega)]
    | 7 => show ((zf_u m w 2 x).1 w 2).toInt = _; rw [zf_u3]; rfl
    | 8 => show ((zf_u m w 2 x).1 w 4).toInt = (m.1 w 4).toInt; rw [zf_u4 (by decide)]
    | 9 => show ((zf_u m w 2 x).1 w 6).toInt = (m.1 w 6).toInt; rw [zf_u4 (by decide)]
    | 10 => show ((zf_u m w 2 x).1 w 10).toInt = (m.1 w 10).toInt; rw [zf_u4 (by decide)]
    | 11 => show ((zf_u m w 2 x).1 w 11).toInt = (m.1 w 11).toInt; rw [zf_u4 (by decide)]
    | 12 => show ((zf_u m w 2 x).1 w 12).toInt = (m.1 w 12).toInt; rw [zf_u4 (by decide)]
    | n + 13 => rfl
  | n + 6 => rfl
theorem zv_w4 (hd : zD w y r) : zv w y r (zf_u m w 4 x) = zU (zv w y r m) 5 8 x.toInt := by
  funext c k
  match c with
  | 0 =>
    show zN 24 ((zf_u m w 4 x).1 (y + 1)) k = zN 24 (m.1 (y + 1)) k
    rw [zf_u1 (by omega)]
  | 1 =>
    show zN 24 ((zf_u m w 4 x).1 (y + 2)) k = zN 24 (m.1 (y + 2)) k
    rw [zf_u1 (by omega)]
  | 2 =>
    show zN 6 ((zf_u m w 4 x).1 (y + 3)) k = zN 6 (m.1 (y + 3)) k
    rw [zf_u1 (by omega)]
  | 3 =>
    show zN 6 ((zf_u m w 4 x).1 (y + 4)) k = zN 6 (m.1 (y + 4)) k
    rw [zf_u1 (by omega)]
  | 4 =>
    show zN 6 ((zf_u m w 4 x).1 r) k = zN 6 (m.1 r) k
    rw [zf_u1 (by omega)]
  | 5 =>
    match k with
    | 0 => show ((zf_u m w 4 x).1 w 3).toInt = (m.1 w 3).toInt; rw [zf_u4 (by decide)]
    | 1 => show ((zf_u m w 4 x).1 w 5).toInt = (m.1 w 5).toInt; rw [zf_u4 (by decide)]
    | 2 => show ((zf_u m w 4 x).1 w 9).toInt = (m.1 w 9).toInt; rw [zf_u4 (by decide)]
    | 3 => show ((zf_u m w 4 x).1 w 7).toInt = (m.1 w 7).toInt; rw [zf_u4 (by decide)]
    | 4 => show ((zf_u m w 4 x).1 w 8).toInt = (m.1 w 8).toInt; rw [zf_u4 (by decide)]
    | 5 => show ((zf_u m w 4 x).1 y 4).toInt = (m.1 y 4).toInt; rw [zf_u1 (by omega)]
    | 6 => show ((zf_u m w 4 x).1 y 5).toInt = (m.1 y 5).toInt; rw [zf_u1 (by omega)]
    | 7 => show ((zf_u m w 4 x).1 w 2).toInt = (m.1 w 2).toInt; rw [zf_u4 (by decide)]
    | 8 => show ((zf_u m w 4 x).1 w 4).toInt = _; rw [zf_u3]; rfl
    | 9 => show ((zf_u m w 4 x).1 w 6).toInt = (m.1 w 6).toInt; rw [zf_u4 (by decide)]
    | 10 => show ((zf_u m w 4 x).1 w 10).toInt = (m.1 w 10).toInt; rw [zf_u4 (by decide)]
    | 11 => show ((zf_u m w 4 x).1 w 11).toInt = (m.1 w 11).toInt; rw [zf_u4 (by decide)]
    | 12 => show ((zf_u m w 4 x).1 w 12).toInt = (m.1 w 12).toInt; rw [zf_u4 (by decide)]
    | n + 13 => rfl
  | n + 6 => rfl
theorem zv_w6 (hd : zD w y r) : zv w y r (zf_u m w 6 x) = zU (zv w y r m) 5 9 x.toInt := by
  funext c k
  match c with
  | 0 =>
    show zN 24 ((zf_u m w 6 x).1 (y + 1)) k = zN 24 (m.1 (y + 1)) k
    rw [zf_u1 (by omega)]
  | 1 =>
    show zN 24 ((zf_u m w 6 x).1 (y + 2)) k = zN 24 (m.1 (y + 2)) k
    rw [zf_u1 (by omega)]
  | 2 =>
    show zN 6 ((zf_u m w 6 x).1 (y + 3)) k = zN 6 (m.1 (y + 3)) k
    rw [zf_u1 (by omega)]
  | 3 =>
    show zN 6 ((zf_u m w 6 x).1 (y + 4)) k = zN 6 (m.1 (y + 4)) k
    rw [zf_u1 (by omega)]
  | 4 =>
    show zN 6 ((zf_u m w 6 x).1 r) k = zN 6 (m.1 r) k
    rw [zf_u1 (by omega)]
  | 5 =>
    match k with
    | 0 => show ((zf_u m w 6 x).1 w 3).toInt = (m.1 w 3).toInt; rw [zf_u4 (by decide)]
    | 1 => show ((zf_u m w 6 x).1 w 5).toInt = (m.1 w 5).toInt; rw [zf_u4 (by decide)]
    | 2 => show ((zf_u m w 6 x).1 w 9).toInt = (m.1 w 9).toInt; rw [zf_u4 (by decide)]
    | 3 => show ((zf_u m w 6 x).1 w 7).toInt = (m.1 w 7).toInt; rw [zf_u4 (by decide)]
    | 4 => show ((zf_u m w 6 x).1 w 8).toInt = (m.1 w 8).toInt; rw [zf_u4 (by decide)]
    | 5 => show ((zf_u m w 6 x).1 y 4).toInt = (m.1 y 4).toInt; rw [zf_u1 (by omega)]
    | 6 => show ((zf_u m w 6 x).1 y 5).toInt = (m.1 y 5).toInt; rw [zf_u1 (by omega)]
    | 7 => show ((zf_u m w 6 x).1 w 2).toInt = (m.1 w 2).toInt; rw [zf_u4 (by decide)]
    | 8 => show ((zf_u m w 6 x).1 w 4).toInt = (m.1 w 4).toInt; rw [zf_u4 (by decide)]
    | 9 => show ((zf_u m w 6 x).1 w 6).toInt = _; rw [zf_u3]; rfl
    | 10 => show ((zf_u m w 6 x).1 w 10).toInt = (m.1 w 10).toInt; rw [zf_u4 (by decide)]
    | 11 => show ((zf_u m w 6 x).1 w 11).toInt = (m.1 w 11).toInt; rw [zf_u4 (by decide)]
    | 12 => show ((zf_u m w 6 x).1 w 12).toInt = (m.1 w 12).toInt; rw [zf_u4 (by decide)]
    | n + 13 => rfl
  | n + 6 => rfl
theorem zv_w10 (hd : zD w y r) : zv w y r (zf_u m w 10 x) = zU (zv w y r m) 5 10 x.toInt := by
  funext c k
  match c with
  | 0 =>
    show zN 24 ((zf_u m w 10 x).1 (y + 1)) k = zN 24 (m.1 (y + 1)) k
    rw [zf_u1 (by omega)]
  | 1 =>
    show zN 24 ((zf_u m w 10 x).1 (y + 2)) k = zN 24 (m.1 (y + 2)) k
    rw [zf_u1 (by omega)]
  | 2 =>
    show zN 6 ((zf_u m w 10 x).1 (y + 3)) k = zN 6 (m.1 (y + 3)) k
    rw [zf_u1 (by omega)]
  | 3 =>
    show zN 6 ((zf_u m w 10 x).1 (y + 4)) k = zN 6 (m.1 (y + 4)) k
    rw [zf_u1 (by omega)]
  | 4 =>
    show zN 6 ((zf_u m w 10 x).1 r) k = zN 6 (m.1 r) k
    rw [zf_u1 (by omega)]
  | 5 =>
    match k with
    | 0 => show ((zf_u m w 10 x).1 w 3).toInt = (m.1 w 3).toInt; rw [zf_u4 (by decide)]
    | 1 => show ((zf_u m w 10 x).1 w 5).toInt = (m.1 w 5).toInt; rw [zf_u4 (by decide)]
    | 2 => show ((zf_u m w 10 x).1 w 9).toInt = (m.1 w 9).toInt; rw [zf_u4 (by decide)]
    | 3 => show ((zf_u m w 10 x).1 w 7).toInt = (m.1 w 7).toInt; rw [zf_u4 (by decide)]
    | 4 => show ((zf_u m w 10 x).1 w 8).toInt = (m.1 w 8).toInt; rw [zf_u4 (by decide)]
    | 5 => show ((zf_u m w 10 x).1 y 4).toInt = (m.1 y 4).toInt; rw [zf_u1 (by omega)]
    | 6 => show ((zf_u m w 10 x).1 y 5).toInt = (m.1 y 5).toInt; rw [zf_u1 (by omega)]
    | 7 => show ((zf_u m w 10 x).1 w 2).toInt = (m.1 w 2).toInt; rw [zf_u4 (by decide)]
    | 8 => show ((zf_u m w 10 x).1 w 4).toInt = (m.1 w 4).toInt; rw [zf_u4 (by decide)]
    | 9 => show ((zf_u m w 10 x).1 w 6).toInt = (m.1 w 6).toInt; rw [zf_u4 (by decide)]
    | 10 => show ((zf_u m w 10 x).1 w 10).toInt = _; rw [zf_u3]; rfl
    | 11 => show ((zf_u m w 10 x).1 w 11).toInt = (m.1 w 11).toInt; rw [zf_u4 (by decide)]
    | 12 => show ((zf_u m w 10 x).1 w 12).toInt = (m.1 w 12).toInt; rw [zf_u4 (by decide)]
    | n + 13 => rfl
  | n + 6 => rfl
theorem zv_w11 (hd : zD w y r) : zv w y r (zf_u m w 11 x) = zU (zv w y r m) 5 11 x.toInt := by
  funext c k
  match c with
  | 0 =>
    show zN 24 ((zf_u m w 11 x).1 (y + 1)) k = zN 24 (m.1 (y + 1)) k
    rw [zf_u1 (by omega)]
  | 1 =>
    show zN 24 ((zf_u m w 11 x).1 (y + 2)) k = zN 24 (m.1 (y + 2)) k
    rw [zf_u1 (by omega)]
  | 2 =>
    show zN 6 ((zf_u m w 11 x).1 (y + 3)) k = zN 6 (m.1 (y + 3)) k
    rw [zf_u1 (by omega)]
  | 3 =>
    show zN 6 ((zf_u m w 11 x).1 (y + 4)) k = zN 6 (m.1 (y + 4)) k
    rw [zf_u1 (by omega)]
  | 4 =>
    show zN 6 ((zf_u m w 11 x).1 r) k = zN 6 (m.1 r) k
    rw [zf_u1 (by omega)]
  | 5 =>
    match k with
    | 0 => show ((zf_u m w 11 x).1 w 3).toInt = (m.1 w 3).toInt; rw [zf_u4 (by decide)]
    | 1 => show ((zf_u m w 11 x).1 w 5).toInt = (m.1 w 5).toInt; rw [zf_u4 (by decide)]
    | 2 => show ((zf_u m w 11 x).1 w 9).toInt = (m.1 w 9).toInt; rw [zf_u4 (by decide)]
    | 3 => show ((zf_u m w 11 x).1 w 7).toInt = (m.1 w 7).toInt; rw [zf_u4 (by decide)]
    | 4 => show ((zf_u m w 11 x).1 w 8).toInt = (m.1 w 8).toInt; rw [zf_u4 (by decide)]
    | 5 => show ((zf_u m w 11 x).1 y 4).toInt = (m.1 y 4).toInt; rw [zf_u1 (by omega)]
    | 6 => show ((zf_u m w 11 x).1 y 5).toInt = (m.1 y 5).toInt; rw [zf_u1 (by omega)]
    | 7 => show ((zf_u m w 11 x).1 w 2).toInt = (m.1 w 2).toInt; rw [zf_u4 (by decide)]
    | 8 => show ((zf_u m w 11 x).1 w 4).toInt = (m.1 w 4).toInt; rw [zf_u4 (by decide)]
    | 9 => show ((zf_u m w 11 x).1 w 6).toInt = (m.1 w 6).toInt; rw [zf_u4 (by decide)]
    | 10 => show ((zf_u m w 11 x).1 w 10).toInt = (m.1 w 10).toInt; rw [zf_u4 (by decide)]
    | 11 => show ((zf_u m w 11 x).1 w 11).toInt = _; rw [zf_u3]; rfl
    | 12 => show ((zf_u m w 11 x).1 w 12).toInt = (m.1 w 12).toInt; rw [zf_u4 (by decide)]
    | n + 13 => rfl
  | n + 6 => rfl
theorem zv_w12 (hd : zD w y r) : zv w y r (zf_u m w 12 x) = zU (zv w y r m) 5 12 x.toInt := by
  funext c k
  match c with
  | 0 =>
    show zN 24 ((zf_u m w 12 x).1 (y + 1)) k = zN 24 (m.1 (y + 1)) k
    rw [zf_u1 (by omega)]
  | 1 =>
    show zN 24 ((zf_u m w 12 x).1 (y + 2)) k = zN 24 (m.1 (y + 2)) k
    rw [zf_u1 (by omega)]
  | 2 =>
    show zN 6 ((zf_u m w 12 x).1 (y + 3)) k = zN 6 (m.1 (y + 3)) k
    rw [zf_u1 (by omega)]
  | 3 =>
    show zN 6 ((zf_u m w 12 x).1 (y + 4)) k = zN 6 (m.1 (y + 4)) k
    rw [zf_u1 (by omega)]
  | 4 =>
    show zN 6 ((zf_u m w 12 x).1 r) k = zN 6 (m.1 r) k
    rw [zf_u1 (by omega)]
  | 5 =>
    match k with
    | 0 => show ((zf_u m w 12 x).1 w 3).toInt = (m.1 w 3).toInt; rw [zf_u4 (by decide)]
    | 1 => show ((zf_u m w 12 x).1 w 5).toInt = (m.1 w 5).toInt; rw [zf_u4 (by decide)]
    | 2 => show ((zf_u m w 12 x).1 w 9).toInt = (m.1 w 9).toInt; rw [zf_u4 (by decide)]
    | 3 => show ((zf_u m w 12 x).1 w 7).toInt = (m.1 w 7).toInt; rw [zf_u4 (by decide)]
    | 4 => show ((zf_u m w 12 x).1 w 8).toInt = (m.1 w 8).toInt; rw [zf_u4 (by decide)]
    | 5 => show ((zf_u m w 12 x).1 y 4).toInt = (m.1 y 4).toInt; rw [zf_u1 (by omega)]
    | 6 => show ((zf_u m w 12 x).1 y 5).toInt = (m.1 y 5).toInt; rw [zf_u1 (by omega)]
    | 7 => show ((zf_u m w 12 x).1 w 2).toInt = (m.1 w 2).toInt; rw [zf_u4 (by decide)]
    | 8 => show ((zf_u m w 12 x).1 w 4).toInt = (m.1 w 4).toInt; rw [zf_u4 (by decide)]
    | 9 => show ((zf_u m w 12 x).1 w 6).toInt = (m.1 w 6).toInt; rw [zf_u4 (by decide)]
    | 10 => show ((zf_u m w 12 x).1 w 10).toInt = (m.1 w 10).toInt; rw [zf_u4 (by decide)]
    | 11 => show ((zf_u m w 12 x).1 w 11).toInt = (m.1 w 11).toInt; rw [zf_u4 (by decide)]
    | 12 => show ((zf_u m w 12 x).1 w 12).toInt = _; rw [zf_u3]; rfl
    | n + 13 => rfl
  | n + 6 => rfl
theorem zv_y4 (hd : zD w y r) : zv w y r (zf_u m y 4 x) = zU (zv w y r m) 5 5 x.toInt := by
  funext c k
  match c with
  | 0 =>
    show zN 24 ((zf_u m y 4 x).1 (y + 1)) k = zN 24 (m.1 (y + 1)) k
    rw [zf_u1 (by omega)]
  | 1 =>
    show zN 24 ((zf_u m y 4 x).1 (y + 2)) k = zN 24 (m.1 (y + 2)) k
    rw [zf_u1 (by omega)]
  | 2 =>
    show zN 6 ((zf_u m y 4 x).1 (y + 3)) k = zN 6 (m.1 (y + 3)) k
    rw [zf_u1 (by omega)]
  | 3 =>
    show zN 6 ((zf_u m y 4 x).1 (y + 4)) k = zN 6 (m.1 (y + 4)) k
    rw [zf_u1 (by omega)]
  | 4 =>
    show zN 6 ((zf_u m y 4 x).1 r) k = zN 6 (m.1 r) k
    rw [zf_u1 (by omega)]
  | 5 =>
    match k with
    | 0 => show ((zf_u m y 4 x).1 w 3).toInt = (m.1 w 3).toInt; rw [zf_u1 (by omega)]
    | 1 => show ((zf_u m y 4 x).1 w 5).toInt = (m.1 w 5).toInt; rw [zf_u1 (by omega)]
    | 2 => show ((zf_u m y 4 x).1 w 9).toInt = (m.1 w 9).toInt; rw [zf_u1 (by omega)]
    | 3 => show ((zf_u m y 4 x).1 w 7).toInt = (m.1 w 7).toInt; rw [zf_u1 (by omega)]
    | 4 => show ((zf_u m y 4 x).1 w 8).toInt = (m.1 w 8).toInt; rw [zf_u1 (by omega)]
    | 5 => show ((zf_u m y 4 x).1 y 4).toInt = _; rw [zf_u3]; rfl
    | 6 => show ((zf_u m y 4 x).1 y 5).toInt = (m.1 y 5).toInt; rw [zf_u4 (by decide)]
    | 7 => show ((zf_u m y 4 x).1 w 2).toInt = (m.1 w 2).toInt; rw [zf_u1 (by omega)]
    | 8 => show ((zf_u m y 4 x).1 w 4).toInt = (m.1 w 4).toInt; rw [zf_u1 (by omega)]
    | 9 => show ((zf_u m y 4 x).1 w 6).toInt = (m.1 w 6).toInt; rw [zf_u1 (by omega)]
    | 10 => show ((zf_u m y 4 x).1 w 10).toInt = (m.1 w 10).toInt; rw [zf_u1 (by omega)]
    | 11 => show ((zf_u m y 4 x).1 w 11).toInt = (m.1 w 11).toInt; rw [zf_u1 (by omega)]
    | 12 => show ((zf_u m y 4 x).1 w 12).toInt = (m.1 w 12).toInt; rw [zf_u1 (by omega)]
    | n + 13 => rfl
  | n + 6 => rfl
theorem zv_y5 (hd : zD w y r) : zv w y r (zf_u m y 5 x) = zU (zv w y r m) 5 6 x.toInt := by
  funext c k
  match c with
  | 0 =>
    show zN 24 ((zf_u m y 5 x).1 (y + 1)) k = zN 24 (m.1 (y + 1)) k
    rw [zf_u1 (by omega)]
  | 1 =>
    show zN 24 ((zf_u m y 5 x).1 (y + 2)) k = zN 24 (m.1 (y + 2)) k
    rw [zf_u1 (by omega)]
  | 2 =>
    show zN 6 ((zf_u m y 5 x).1 (y + 3)) k = zN 6 (m.1 (y + 3)) k
    rw [zf_u1 (by omega)]
  | 3 =>
    show zN 6 ((zf_u m y 5 x).1 (y + 4)) k = zN 6 (m.1 (y + 4)) k
    rw [zf_u1 (by omega)]
  | 4 =>
    show zN 6 ((zf_u m y 5 x).1 r) k = zN 6 (m.1 r) k
    rw [zf_u1 (by omega)]
  | 5 =>
    match k with
    | 0 => show ((zf_u m y 5 x).1 w 3).toInt = (m.1 w 3).toInt; rw [zf_u1 (by omega)]
    | 1 => show ((zf_u m y 5 x).1 w 5).toInt = (m.1 w 5).toInt; rw [zf_u1 (by omega)]
    | 2 => show ((zf_u m y 5 x).1 w 9).toInt = (m.1 w 9).toInt; rw [zf_u1 (by omega)]
    | 3 => show ((zf_u m y 5 x).1 w 7).toInt = (m.1 w 7).toInt; rw [zf_u1 (by omega)]
    | 4 => show ((zf_u m y 5 x).1 w 8).toInt = (m.1 w 8).toInt; rw [zf_u1 (by omega)]
    | 5 => show ((zf_u m y 5 x).1 y 4).toInt = (m.1 y 4).toInt; rw [zf_u4 (by decide)]
    | 6 => show ((zf_u m y 5 x).1 y 5).toInt = _; rw [zf_u3]; rfl
    | 7 => show ((zf_u m y 5 x).1 w 2).toInt = (m.1 w 2).toInt; rw [zf_u1 (by omega)]
    | 8 => show ((zf_u m y 5 x).1 w 4).toInt = (m.1 w 4).toInt; rw [zf_u1 (by omega)]
    | 9 => show ((zf_u m y 5 x).1 w 6).toInt = (m.1 w 6).toInt; rw [zf_u1 (by omega)]
    | 10 => show ((zf_u m y 5 x).1 w 10).toInt = (m.1 w 10).toInt; rw [zf_u1 (by omega)]
    | 11 => show ((zf_u m y 5 x).1 w 11).toInt = (m.1 w 11).toInt; rw [zf_u1 (by omega)]
    | 12 => show ((zf_u m y 5 x).1 w 12).toInt = (m.1 w 12).toInt; rw [zf_u1 (by omega)]
    | n + 13 => rfl
  | n + 6 => rfl
theorem zr_w4 : zr (zf_u m 63 4 x) = zU (zr m) 5 0 x.toInt := by
  funext c k
  match c with
  | 0 =>
    show zN 24 ((zf_u m 63 4 x).1 65) k = zN 24 (m.1 65) k
    rw [zf_u1 (by decide)]
  | 1 =>
    show zN 24 ((zf_u m 63 4 x).1 66) k = zN 24 (m.1 66) k
    rw [zf_u1 (by decide)]
  | 2 =>
    show zN 6 ((zf_u m 63 4 x).1 67) k = zN 6 (m.1 67) k
    rw [zf_u1 (by decide)]
  | 3 =>
    show zN 6 ((zf_u m 63 4 x).1 68) k = zN 6 (m.1 68) k
    rw [zf_u1 (by decide)]
  | 4 =>
    show zN 6 ((zf_u m 63 4 x).1 69) k = zN 6 (m.1 69) k
    rw [zf_u1 (by decide)]
  | 5 =>
    match k with
    | 0 => show ((zf_u m 63 4 x).1 63 4).toInt = _; rw [zf_u3]; rfl
    | 1 => show ((zf_u m 63 4 x).1 63 5).toInt = (m.1 63 5).toInt; rw [zf_u4 (by decide)]
    | 2 => show ((zf_u m 63 4 x).1 63 9).toInt = (m.1 63 9).toInt; rw [zf_u4 (by decide)]
    | 3 => show ((zf_u m 63 4 x).1 63 7).toInt = (m.1 63 7).toInt; rw [zf_u4 (by decide)]
    | 4 => show ((zf_u m 63 4 x).1 63 8).toInt = (m.1 63 8).toInt; rw [zf_u4 (by decide)]
    | 5 => show ((zf_u m 63 4 x).1 63 0).toInt = (m.1 63 0).toInt; rw [zf_u4 (by decide)]
    | 6 => show ((zf_u m 63 4 x).1 63 1).toInt = (m.1 63 1).toInt; rw [zf_u4 (by decide)]
    | 7 => show ((zf_u m 63 4 x).1 63 2).toInt = (m.1 63 2).toInt; rw [zf_u4 (by decide)]
    | 8 => show ((zf_u m 63 4 x).1 63 3).toInt = (m.1 63 3).toInt; rw [zf_u4 (by decide)]
    | 9 => show ((zf_u m 63 4 x).1 63 6).toInt = (m.1 63 6).toInt; rw [zf_u4 (by decide)]
    | 10 => show ((zf_u m 63 4 x).1 63 10).toInt = (m.1 63 10).toInt; rw [zf_u4 (by decide)]
    | 11 => show ((zf_u m 63 4 x).1 63 11).toInt = (m.1 63 11).toInt; rw [zf_u4 (by decide)]
    | 12 => show ((zf_u m 63 4 x).1 63 12).toInt = (m.1 63 12).toInt; rw [zf_u4 (by decide)]
    | n + 13 => rfl
  | n + 6 => rfl
theorem zr_w5 : zr (zf_u m 63 5 x) = zU (zr m) 5 1 x.toInt := by
  funext c k
  match c with
  | 0 =>
    show zN 24 ((zf_u m 63 5 x).1 65) k = zN 24 (m.1 65) k
    rw [zf_u1 (by decide)]
  | 1 =>
    show zN 24 ((zf_u m 63 5 x).1 66) k = zN 24 (m.1 66) k
    rw [zf_u1 (by decide)]
  | 2 =>
    show zN 6 ((zf_u m 63 5 x).1 67) k = zN 6 (m.1 67) k
    rw [zf_u1 (by decide)]
  | 3 =>
    show zN 6 ((zf_u m 63 5 x).1 68) k = zN 6 (m.1 68) k
    rw [zf_u1 (by decide)]
  | 4 =>
    show zN 6 ((zf_u m 63 5 x).1 69) k = zN 6 (m.1 69) k
    rw [zf_u1 (by decide)]
  | 5 =>
    match k with
    | 0 => show ((zf_u m 63 5 x).1 63 4).toInt = (m.1 63 4).toInt; rw [zf_u4 (by decide)]
    | 1 => show ((zf_u m 63 5 x).1 63 5).toInt = _; rw [zf_u3]; rfl
    | 2 => show ((zf_u m 63 5 x).1 63 9).toInt = (m.1 63 9).toInt; rw [zf_u4 (by decide)]
    | 3 => show ((zf_u m 63 5 x).1 63 7).toInt = (m.1 63 7).toInt; rw [zf_u4 (by decide)]
    | 4 => show ((zf_u m 63 5 x).1 63 8).toInt = (m.1 63 8).toInt; rw [zf_u4 (by decide)]
    | 5 => show ((zf_u m 63 5 x).1 63 0).toInt = (m.1 63 0).toInt; rw [zf_u4 (by decide)]
    | 6 => show ((zf_u m 63 5 x).1 63 1).toInt = (m.1 63 1).toInt; rw [zf_u4 (by decide)]
    | 7 => show ((zf_u m 63 5 x).1 63 2).toInt = (m.1 63 2).toInt; rw [zf_u4 (by decide)]
    | 8 => show ((zf_u m 63 5 x).1 63 3).toInt = (m.1 63 3).toInt; rw [zf_u4 (by decide)]
    | 9 => show ((zf_u m 63 5 x).1 63 6).toInt = (m.1 63 6).toInt; rw [zf_u4 (by decide)]
    | 10 => show ((zf_u m 63 5 x).1 63 10).toInt = (m.1 63 10).toInt; rw [zf_u4 (by decide)]
    | 11 => show ((zf_u m 63 5 x).1 63 11).toInt = (m.1 63 11).toInt; rw [zf_u4 (by decide)]
    | 12 => show ((zf_u m 63 5 x).1 63 12).toInt = (m.1 63 12).toInt; rw [zf_u4 (by decide)]
    | n + 13 => rfl
  | n + 6 => rfl
theorem zr_w9 : zr (zf_u m 63 9 x) = zU (zr m) 5 2 x.toInt := by
  funext c k
  match c with
  | 0 =>
    show zN 24 ((zf_u m 63 9 x).1 65) k = zN 24 (m.1 65) k
    rw [zf_u1 (by decide)]
  | 1 =>
    show zN 24 ((zf_u m 63 9 x).1 66) k = zN 24 (m.1 66) k
    rw [zf_u1 (by decide)]
  | 2 =>
    show zN 6 ((zf_u m 63 9 x).1 67) k = zN 6 (m.1 67) k
    rw [zf_u1 (by decide)]
  | 3 =>
    show zN 6 ((zf_u m 63 9 x).1 68) k = zN 6 (m.1 68) k
    rw [zf_u1 (by decide)]
  | 4 =>
    show zN 6 ((zf_u m 63 9 x).1 69) k = zN 6 (m.1 69) k
    rw [zf_u1 (by decide)]
  | 5 =>
    match k with
    | 0 => show ((zf_u m 63 9 x).1 63 4).toInt = (m.1 63 4).toInt; rw [zf_u4 (by decide)]
    | 1 => show ((zf_u m 63 9 x).1 63 5).toInt = (m.1 63 5).toInt; rw [zf_u4 (by decide)]
    | 2 => show ((zf_u m 63 9 x).1 63 9).toInt = _; rw [zf_u3]; rfl
    | 3 => show ((zf_u m 63 9 x).1 63 7).toInt = (m.1 63 7).toInt; rw [zf_u4 (by decide)]
    | 4 => show ((zf_u m 63 9 x).1 63 8).toInt = (m.1 63 8).toInt; rw [zf_u4 (by decide)]
    | 5 => show ((zf_u m 63 9 x).1 63 0).toInt = (m.1 63 0).toInt; rw [zf_u4 (by decide)]
    | 6 => show ((zf_u m 63 9 x).1 63 1).toInt = (m.1 63 1).toInt; rw [zf_u4 (by decide)]
    | 7 => show ((zf_u m 63 9 x).1 63 2).toInt = (m.1 63 2).toInt; rw [zf_u4 (by decide)]
    | 8 => show ((zf_u m 63 9 x).1 63 3).toInt = (m.1 63 3).toInt; rw [zf_u4 (by decide)]
    | 9 => show ((zf_u m 63 9 x).1 63 6).toInt = (m.1 63 6).toInt; rw [zf_u4 (by decide)]
    | 10 => show ((zf_u m 63 9 x).1 63 10).toInt = (m.1 63 10).toInt; rw [zf_u4 (by decide)]
    | 11 => show ((zf_u m 63 9 x).1 63 11).toInt = (m.1 63 11).toInt; rw [zf_u4 (by decide)]
    | 12 => show ((zf_u m 63 9 x).1 63 12).toInt = (m.1 63 12).toInt; rw [zf_u4 (by decide)]
    | n + 13 => rfl
  | n + 6 => rfl
theorem zr_w7 : zr (zf_u m 63 7 x) = zU (zr m) 5 3 x.toInt := by
  funext c k
  match c with
  | 0 =>
    show zN 24 ((zf_u m 63 7 x).1 65) k = zN 24 (m.1 65) k
    rw [zf_u1 (by decide)]
  | 1 =>
    show zN 24 ((zf_u m 63 7 x).1 66) k = zN 24 (m.1 66) k
    rw [zf_u1 (by decide)]
  | 2 =>
    show zN 6 ((zf_u m 63 7 x).1 67) k = zN 6 (m.1 67) k
    rw [zf_u1 (by decide)]
  | 3 =>
    show zN 6 ((zf_u m 63 7 x).1 68) k = zN 6 (m.1 68) k
    rw [zf_u1 (by decide)]
  | 4 =>
    show zN 6 ((zf_u m 63 7 x).1 69) k = zN 6 (m.1 69) k
    rw [zf_u1 (by decide)]
  | 5 =>
    match k with
    | 0 => show ((zf_u m 63 7 x).1 63 4).toInt = (m.1 63 4).toInt; rw [zf_u4 (by decide)]
    | 1 => show ((zf_u m 63 7 x).1 63 5).toInt = (m.1 63 5).toInt; rw [zf_u4 (by decide)]
    | 2 => show ((zf_u m 63 7 x).1 63 9).toInt = (m.1 63 9).toInt; rw [zf_u4 (by decide)]
    | 3 => show ((zf_u m 63 7 x).1 63 7).toInt = _; rw [zf_u3]; rfl
    | 4 => show ((zf_u m 63 7 x).1 63 8).toInt = (m.1 63 8).toInt; rw [zf_u4 (by decide)]
    | 5 => show ((zf_u m 63 7 x).1 63 0).toInt = (m.1 63 0).toInt; rw [zf_u4 (by decide)]
    | 6 => show ((zf_u m 63 7 x).1 63 1).toInt = (m.1 63 1).toInt; rw [zf_u4 (by decide)]
    | 7 => show ((zf_u m 63 7 x).1 63 2).toInt = (m.1 63 2).toInt; rw [zf_u4 (by decide)]
    | 8 => show ((zf_u m 63 7 x).1 63 3).toInt = (m.1 63 3).toInt; rw [zf_u4 (by decide)]
    | 9 => show ((zf_u m 63 7 x).1 63 6).toInt = (m.1 63 6).toInt; rw [zf_u4 (by decide)]
    | 10 => show ((zf_u m 63 7 x).1 63 10).toInt = (m.1 63 10).toInt; rw [zf_u4 (by decide)]
    | 11 => show ((zf_u m 63 7 x).1 63 11).toInt = (m.1 63 11).toInt; rw [zf_u4 (by decide)]
    | 12 => show ((zf_u m 63 7 x).1 63 12).toInt = (m.1 63 12).toInt; rw [zf_u4 (by decide)]
    | n + 13 => rfl
  | n + 6 => rfl
theorem zr_w8 : zr (zf_u m 63 8 x) = zU (zr m) 5 4 x.toInt := by
  funext c k
  match c with
  | 0 =>
    show zN 24 ((zf_u m 63 8 x).1 65) k = zN 24 (m.1 65) k
    rw [zf_u1 (by decide)]
  | 1 =>
    show zN 24 ((zf_u m 63 8 x).1 66) k = zN 24 (m.1 66) k
    rw [zf_u1 (by decide)]
  | 2 =>
    show zN 6 ((zf_u m 63 8 x).1 67) k = zN 6 (m.1 67) k
    rw [zf_u1 (by decide)]
  | 3 =>
    show zN 6 ((zf_u m 63 8 x).1 68) k = zN 6 (m.1 68) k
    rw [zf_u1 (by decide)]
  | 4 =>
    show zN 6 ((zf_u m 63 8 x).1 69) k = zN 6 (m.1 69) k
    rw [zf_u1 (by decide)]
  | 5 =>
    match k with
    | 0 => show ((zf_u m 63 8 x).1 63 4).toInt = (m.1 63 4).toInt; rw [zf_u4 (by decide)]
    | 1 => show ((zf_u m 63 8 x).1 63 5).toInt = (m.1 63 5).toInt; rw [zf_u4 (by decide)]
    | 2 => show ((zf_u m 63 8 x).1 63 9).toInt = (m.1 63 9).toInt; rw [zf_u4 (by decide)]
    | 3 => show ((zf_u m 63 8 x).1 63 7).toInt = (m.1 63 7).toInt; rw [zf_u4 (by decide)]
    | 4 => show ((zf_u m 63 8 x).1 63 8).toInt = _; rw [zf_u3]; rfl
    | 5 => show ((zf_u m 63 8 x).1 63 0).toInt = (m.1 63 0).toInt; rw [zf_u4 (by decide)]
    | 6 => show ((zf_u m 63 8 x).1 63 1).toInt = (m.1 63 1).toInt; rw [zf_u4 (by decide)]
    | 7 => show ((zf_u m 63 8 x).1 63 2).toInt = (m.1 63 2).toInt; rw [zf_u4 (by decide)]
    | 8 => show ((zf_u m 63 8 x).1 63 3).toInt = (m.1 63 3).toInt; rw [zf_u4 (by decide)]
    | 9 => show ((zf_u m 63 8 x).1 63 6).toInt = (m.1 63 6).toInt; rw [zf_u4 (by decide)]
    | 10 => show ((zf_u m 63 8 x).1 63 10).toInt = (m.1 63 10).toInt; rw [zf_u4 (by decide)]
    | 11 => show ((zf_u m 63 8 x).1 63 11).toInt = (m.1 63 11).toInt; rw [zf_u4 (by decide)]
    | 12 => show ((zf_u m 63 8 x).1 63 12).toInt = (m.1 63 12).toInt; rw [zf_u4 (by decide)]
    | n + 13 => rfl
  | n + 6 => rfl
theorem zr_w0 : zr (zf_u m 63 0 x) = zU (zr m) 5 5 x.toInt := by
  funext c k
  match c with
  | 0 =>
    show zN 24 ((zf_u m 63 0 x).1 65) k = zN 24 (m.1 65) k
    rw [zf_u1 (by decide)]
  | 1 =>
    show zN 24 ((zf_u m 63 0 x).1 66) k = zN 24 (m.1 66) k
    rw [zf_u1 (by decide)]
  | 2 =>
    show zN 6 ((zf_u m 63 0 x).1 67) k = zN 6 (m.1 67) k
    rw [zf_u1 (by decide)]
  | 3 =>
    show zN 6 ((zf_u m 63 0 x).1 68) k = zN 6 (m.1 68) k
    rw [zf_u1 (by decide)]
  | 4 =>
    show zN 6 ((zf_u m 63 0 x).1 69) k = zN 6 (m.1 69) k
    rw [zf_u1 (by decide)]
  | 5 =>
    match k with
    | 0 => show ((zf_u m 63 0 x).1 63 4).toInt = (m.1 63 4).toInt; rw [zf_u4 (by decide)]
    | 1 => show ((zf_u m 63 0 x).1 63 5).toInt = (m.1 63 5).toInt; rw [zf_u4 (by decide)]
    | 2 => show ((zf_u m 63 0 x).1 63 9).toInt = (m.1 63 9).toInt; rw [zf_u4 (by decide)]
    | 3 => show ((zf_u m 63 0 x).1 63 7).toInt = (m.1 63 7).toInt; rw [zf_u4 (by decide)]
    | 4 => show ((zf_u m 63 0 x).1 63 8).toInt = (m.1 63 8).toInt; rw [zf_u4 (by decide)]
    | 5 => show ((zf_u m 63 0 x).1 63 0).toInt = _; rw [zf_u3]; rfl
    | 6 => show ((zf_u m 63 0 x).1 63 1).toInt = (m.1 63 1).toInt; rw [zf_u4 (by decide)]
    | 7 => show ((zf_u m 63 0 x).1 63 2).toInt = (m.1 63 2).toInt; rw [zf_u4 (by decide)]
    | 8 => show ((zf_u m 63 0 x).1 63 3).toInt = (m.1 63 3).toInt; rw [zf_u4 (by decide)]
    | 9 => show ((zf_u m 63 0 x).1 63 6).toInt = (m.1 63 6).toInt; rw [zf_u4 (by decide)]
    | 10 => show ((zf_u m 63 0 x).1 63 10).toInt = (m.1 63 10).toInt; rw [zf_u4 (by decide)]
    | 11 => show ((zf_u m 63 0 x).1 63 11).toInt = (m.1 63 11).toInt; rw [zf_u4 (by decide)]
    | 12 => show ((zf_u m 63 0 x).1 63 12).toInt = (m.1 63 12).toInt; rw [zf_u4 (by decide)]
    | n + 13 => rfl
  | n + 6 => rfl
theorem zr_w1 : zr (zf_u m 63 1 x) = zU (zr m) 5 6 x.toInt := by
  funext c k
  match c with
  | 0 =>
    show zN 24 ((zf_u m 63 1 x).1 65) k = zN 24 (m.1 65) k
    rw [zf_u1 (by decide)]
  | 1 =>
    show zN 24 ((zf_u m 63 1 x).1 66) k = zN 24 (m.1 66) k
    rw [zf_u1 (by decide)]
  | 2 =>
    show zN 6 ((zf_u m 63 1 x).1 67) k = zN 6 (m.1 67) k
    rw [zf_u1 (by decide)]
  | 3 =>
    show zN 6 ((zf_u m 63 1 x).1 68) k = zN 6 (m.1 68) k
    rw [zf_u1 (by decide)]
  | 4 =>
    show zN 6 ((zf_u m 63 1 x).1 69) k = zN 6 (m.1 69) k
    rw [zf_u1 (by decide)]
  | 5 =>
    match k with
    | 0 => show ((zf_u m 63 1 x).1 63 4).toInt = (m.1 63 4).toInt; rw [zf_u4 (by decide)]
    | 1 => show ((zf_u m 63 1 x).1 63 5).toInt = (m.1 63 5).toInt; rw [zf_u4 (by decide)]
    | 2 => show ((zf_u m 63 1 x).1 63 9).toInt = (m.1 63 9).toInt; rw [zf_u4 (by decide)]
    | 3 => show ((zf_u m 63 1 x).1 63 7).toInt = (m.1 63 7).toInt; rw [zf_u4 (by decide)]
    | 4 => show ((zf_u m 63 1 x).1 63 8).toInt = (m.1 63 8).toInt; rw [zf_u4 (by decide)]
    | 5 => show ((zf_u m 63 1 x).1 63 0).toInt = (m.1 63 0).toInt; rw [zf_u4 (by decide)]
    | 6 => show ((zf_u m 63 1 x).1 63 1).toInt = _; rw [zf_u3]; rfl
    | 7 => show ((zf_u m 63 1 x).1 63 2).toInt = (m.1 63 2).toInt; rw [zf_u4 (by decide)]
    | 8 => show ((zf_u m 63 1 x).1 63 3).toInt = (m.1 63 3).toInt; rw [zf_u4 (by decide)]
    | 9 => show ((zf_u m 63 1 x).1 63 6).toInt = (m.1 63 6).toInt; rw [zf_u4 (by decide)]
    | 10 => show ((zf_u m 63 1 x).1 63 10).toInt = (m.1 63 10).toInt; rw [zf_u4 (by decide)]
    | 11 => show ((zf_u m 63 1 x).1 63 11).toInt = (m.1 63 11).toInt; rw [zf_u4 (by decide)]
    | 12 => show ((zf_u m 63 1 x).1 63 12).toInt = (m.1 63 12).toInt; rw [zf_u4 (by decide)]
    | n + 13 => rfl
  | n + 6 => rfl
theorem zr_w2 : zr (zf_u m 63 2 x) = zU (zr m) 5 7 x.toInt := by
  funext c k
  match c with
  | 0 =>
    show zN 24 ((zf_u m 63 2 x).1 65) k = zN 24 (m.1 65) k
    rw [zf_u1 (by decide)]
  | 1 =>
    show zN 24 ((zf_u m 63 2 x).1 66) k = zN 24 (m.1 66) k
    rw [zf_u1 (by decide)]
  | 2 =>
    show zN 6 ((zf_u m 63 2 x).1 67) k = zN 6 (m.1 67) k
    rw [zf_u1 (by decide)]
  | 3 =>
    show zN 6 ((zf_u m 63 2 x).1 68) k = zN 6 (m.1 68) k
    rw [zf_u1 (by decide)]
  | 4 =>
    show zN 6 ((zf_u m 63 2 x).1 69) k = zN 6 (m.1 69) k
    rw [zf_u1 (by decide)]
  | 5 =>
    match k with
    | 0 => show ((zf_u m 63 2 x).1 63 4).toInt = (m.1 63 4).toInt; rw [zf_u4 (by decide)]
    | 1 => show ((zf_u m 63 2 x).1 63 5).toInt = (m.1 63 5).toInt; rw [zf_u4 (by decide)]
    | 2 => show ((zf_u m 63 2 x).1 63 9).toInt = (m.1 63 9).toInt; rw [zf_u4 (by decide)]
    | 3 => show ((zf_u m 63 2 x).1 63 7).toInt = (m.1 63 7).toInt; rw [zf_u4 (by decide)]
    | 4 => show ((zf_u m 63 2 x).1 63 8).toInt = (m.1 63 8).toInt; rw [zf_u4 (by decide)]
    | 5 => show ((zf_u m 63 2 x).1 63 0).toInt = (m.1 63 0).toInt; rw [zf_u4 (by decide)]
    | 6 => show ((zf_u m 63 2 x).1 63 1).toInt = (m.1 63 1).toInt; rw [zf_u4 (by decide)]
    | 7 => show ((zf_u m 63 2 x).1 63 2).toInt = _; rw [zf_u3]; rfl
    | 8 => show ((zf_u m 63 2 x).1 63 3).toInt = (m.1 63 3).toInt; rw [zf_u4 (by decide)]
    | 9 => show ((zf_u m 63 2 x).1 63 6).toInt = (m.1 63 6).toInt; rw [zf_u4 (by decide)]
    | 10 => show ((zf_u m 63 2 x).1 63 10).toInt = (m.1 63 10).toInt; rw [zf_u4 (by decide)]
    | 11 => show ((zf_u m 63 2 x).1 63 11).toInt = (m.1 63 11).toInt; rw [zf_u4 (by decide)]
    | 12 => show ((zf_u m 63 2 x).1 63 12).toInt = (m.1 63 12).toInt; rw [zf_u4 (by decide)]
    | n + 13 => rfl
  | n + 6 => rfl
theorem zr_w3 : zr (zf_u m 63 3 x) = zU (zr m) 5 8 x.toInt := by
  funext c k
  match c with
  | 0 =>
    show zN 24 ((zf_u m 63 3 x).1 65) k = zN 24 (m.1 65) k
    rw [zf_u1 (by decide)]
  | 1 =>
    show zN 24 ((zf_u m 63 3 x).1 66) k = zN 24 (m.1 66) k
    rw [zf_u1 (by decide)]
  | 2 =>
    show zN 6 ((zf_u m 63 3 x).1 67) k = zN 6 (m.1 67) k
    rw [zf_u1 (by decide)]
  | 3 =>
    show zN 6 ((zf_u m 63 3 x).1 68) k = zN 6 (m.1 68) k
    rw [zf_u1 (by decide)]
  | 4 =>
    show zN 6 ((zf_u m 63 3 x).1 69) k = zN 6 (m.1 69) k
    rw [zf_u1 (by decide)]
  | 5 =>
    match k with
    | 0 => show ((zf_u m 63 3 x).1 63 4).toInt = (m.1 63 4).toInt; rw [zf_u4 (by decide)]
    | 1 => show ((zf_u m 63 3 x).1 63 5).toInt = (m.1 63 5).toInt; rw [zf_u4 (by decide)]
    | 2 => show ((zf_u m 63 3 x).1 63 9).toInt = (m.1 63 9).toInt; rw [zf_u4 (by decide)]
    | 3 => show ((zf_u m 63 3 x).1 63 7).toInt = (m.1 63 7).toInt; rw [zf_u4 (by decide)]
    | 4 => show ((zf_u m 63 3 x).1 63 8).toInt = (m.1 63 8).toInt; rw [zf_u4 (by decide)]
    | 5 => show ((zf_u m 63 3 x).1 63 0).toInt = (m.1 63 0).toInt; rw [zf_u4 (by decide)]
    | 6 => show ((zf_u m 63 3 x).1 63 1).toInt = (m.1 63 1).toInt; rw [zf_u4 (by decide)]
    | 7 => show ((zf_u m 63 3 x).1 63 2).toInt = (m.1 63 2).toInt; rw [zf_u4 (by decide)]
    | 8 => show ((zf_u m 63 3 x).1 63 3).toInt = _; rw [zf_u3]; rfl
    | 9 => show ((zf_u m 63 3 x).1 63 6).toInt = (m.1 63 6).toInt; rw [zf_u4 (by decide)]
    | 10 => show ((zf_u m 63 3 x).1 63 10).toInt = (m.1 63 10).toInt; rw [zf_u4 (by decide)]
    | 11 => show ((zf_u m 63 3 x).1 63 11).toInt = (m.1 63 11).toInt; rw [zf_u4 (by decide)]
    | 12 => show ((zf_u m 63 3 x).1 63 12).toInt = (m.1 63 12).toInt; rw [zf_u4 (by decide)]
    | n + 13 => rfl
  | n + 6 => rfl
theorem zr_w6 : zr (zf_u m 63 6 x) = zU (zr m) 5 9 x.toInt := by
  funext c k
  match c with
  | 0 =>
    show zN 24 ((zf_u m 63 6 x).1 65) k = zN 24 (m.1 65) k
    rw [zf_u1 (by decide)]
  | 1 =>
    show zN 24 ((zf_u m 63 6 x).1 66) k = zN 24 (m.1 66) k
    rw [zf_u1 (by decide)]
  | 2 =>
    show zN 6 ((zf_u m 63 6 x).1 67) k = zN 6 (m.1 67) k
    rw [zf_u1 (by decide)]
  | 3 =>
    show zN 6 ((zf_u m 63 6 x).1 68) k = zN 6 (m.1 68) k
    rw [zf_u1 (by decide)]
  | 4 =>
    show zN 6 ((zf_u m 63 6 x).1 69) k = zN 6 (m.1 69) k
    rw [zf_u1 (by decide)]
  | 5 =>
    match k with
    | 0 => show ((zf_u m 63 6 x).1 63 4).toInt = (m.1 63 4).toInt; rw [zf_u4 (by decide)]
    | 1 => show ((zf_u m 63 6 x).1 63 5).toInt = (m.1 63 5).toInt; rw [zf_u4 (by decide)]
    | 2 => show ((zf_u m 63 6 x).1 63 9).toInt = (m.1 63 9).toInt; rw [zf_u4 (by decide)]
    | 3 => show ((zf_u m 63 6 x).1 63 7).toInt = (m.1 63 7).toInt; rw [zf_u4 (by decide)]
    | 4 => show ((zf_u m 63 6 x).1 63 8).toInt = (m.1 63 8).toInt; rw [zf_u4 (by decide)]
    | 5 => show ((zf_u m 63 6 x).1 63 0).toInt = (m.1 63 0).toInt; rw [zf_u4 (by decide)]
    | 6 => show ((zf_u m 63 6 x).1 63 1).toInt = (m.1 63 1).toInt; rw [zf_u4 (by decide)]
    | 7 => show ((zf_u m 63 6 x).1 63 2).toInt = (m.1 63 2).toInt; rw [zf_u4 (by decide)]
    | 8 => show ((zf_u m 63 6 x).1 63 3).toInt = (m.1 63 3).toInt; rw [zf_u4 (by decide)]
    | 9 => show ((zf_u m 63 6 x).1 63 6).toInt = _; rw [zf_u3]; rfl
    | 10 => show ((zf_u m 63 6 x).1 63 10).toInt = (m.1 63 10).toInt; rw [zf_u4 (by decide)]
    | 11 => show ((zf_u m 63 6 x).1 63 11).toInt = (m.1 63 11).toInt; rw [zf_u4 (by decide)]
    | 12 => show ((zf_u m 63 6 x).1 63 12).toInt = (m.1 63 12).toInt; rw [zf_u4 (by decide)]
    | n + 13 => rfl
  | n + 6 => rfl
theorem zr_w10 : zr (zf_u m 63 10 x) = zU (zr m) 5 10 x.toInt := by
  funext c k
  match c with
  | 0 =>
    show zN 24 ((zf_u m 63 10 x).1 65) k = zN 24 (m.1 65) k
    rw [zf_u1 (by decide)]
  | 1 =>
    show zN 24 ((zf_u m 63 10 x).1 66) k = zN 24 (m.1 66) k
    rw [zf_u1 (by decide)]
  | 2 =>
    show zN 6 ((zf_u m 63 10 x).1 67) k = zN 6 (m.1 67) k
    rw [zf_u1 (by decide)]
  | 3 =>
    show zN 6 ((zf_u m 63 10 x).1 68) k = zN 6 (m.1 68) k
    rw [zf_u1 (by decide)]
  | 4 =>
    show zN 6 ((zf_u m 63 10 x).1 69) k = zN 6 (m.1 69) k
    rw [zf_u1 (by decide)]
  | 5 =>
    match k with
    | 0 => show ((zf_u m 63 10 x).1 63 4).toInt = (m.1 63 4).toInt; rw [zf_u4 (by decide)]
    | 1 => show ((zf_u m 63 10 x).1 63 5).toInt = (m.1 63 5).toInt; rw [zf_u4 (by decide)]
    | 2 => show ((zf_u m 63 10 x).1 63 9).toInt = (m.1 63 9).toInt; rw [zf_u4 (by decide)]
    | 3 => show ((zf_u m 63 10 x).1 63 7).toInt = (m.1 63 7).toInt; rw [zf_u4 (by decide)]
    | 4 => show ((zf_u m 63 10 x).1 63 8).toInt = (m.1 63 8).toInt; rw [zf_u4 (by decide)]
    | 5 => show ((zf_u m 63 10 x).1 63 0).toInt = (m.1 63 0).toInt; rw [zf_u4 (by decide)]
    | 6 => show ((zf_u m 63 10 x).1 63 1).toInt = (m.1 63 1).toInt; rw [zf_u4 (by decide)]
    | 7 => show ((zf_u m 63 10 x).1 63 2).toInt = (m.1 63 2).toInt; rw [zf_u4 (by decide)]
    | 8 => show ((zf_u m 63 10 x).1 63 3).toInt = (m.1 63 3).toInt; rw [zf_u4 (by decide)]
    | 9 => show ((zf_u m 63 10 x).1 63 6).toInt = (m.1 63 6).toInt; rw [zf_u4 (by decide)]
    | 10 => show ((zf_u m 63 10 x).1 63 10).toInt = _; rw [zf_u3]; rfl
    | 11 => show ((zf_u m 63 10 x).1 63 11).toInt = (m.1 63 11).toInt; rw [zf_u4 (by decide)]
    | 12 => show ((zf_u m 63 10 x).1 63 12).toInt = (m.1 63 12).toInt; rw [zf_u4 (by decide)]
    | n + 13 => rfl
  | n + 6 => rfl
theorem zr_w11 : zr (zf_u m 63 11 x) = zU (zr m) 5 11 x.toInt := by
  funext c k
  match c with
  | 0 =>
    show zN 24 ((zf_u m 63 11 x).1 65) k = zN 24 (m.1 65) k
    rw [zf_u1 (by decide)]
  | 1 =>
    show zN 24 ((zf_u m 63 11 x).1 66) k = zN 24 (m.1 66) k
    rw [zf_u1 (by decide)]
  | 2 =>
    show zN 6 ((zf_u m 63 11 x).1 67) k = zN 6 (m.1 67) k
    rw [zf_u1 (by decide)]
  | 3 =>
    show zN 6 ((zf_u m 63 11 x).1 68) k = zN 6 (m.1 68) k
    rw [zf_u1 (by decide)]
  | 4 =>
    show zN 6 ((zf_u m 63 11 x).1 69) k = zN 6 (m.1 69) k
    rw [zf_u1 (by decide)]
  | 5 =>
    match k with
    | 0 => show ((zf_u m 63 11 x).1 63 4).toInt = (m.1 63 4).toInt; rw [zf_u4 (by decide)]
    | 1 => show ((zf_u m 63 11 x).1 63 5).toInt = (m.1 63 5).toInt; rw [zf_u4 (by decide)]
    | 2 => show ((zf_u m 63 11 x).1 63 9).toInt = (m.1 63 9).toInt; rw [zf_u4 (by decide)]
    | 3 => show ((zf_u m 63 11 x).1 63 7).toInt = (m.1 63 7).toInt; rw [zf_u4 (by decide)]
    | 4 => show ((zf_u m 63 11 x).1 63 8).toInt = (m.1 63 8).toInt; rw [zf_u4 (by decide)]
    | 5 => show ((zf_u m 63 11 x).1 63 0).toInt = (m.1 63 0).toInt; rw [zf_u4 (by decide)]
    | 6 => show ((zf_u m 63 11 x).1 63 1).toInt = (m.1 63 1).toInt; rw [zf_u4 (by decide)]
    | 7 => show ((zf_u m 63 11 x).1 63 2).toInt = (m.1 63 2).toInt; rw [zf_u4 (by decide)]
    | 8 => show ((zf_u m 63 11 x).1 63 3).toInt = (m.1 63 3).toInt; rw [zf_u4 (by decide)]
    | 9 => show ((zf_u m 63 11 x).1 63 6).toInt = (m.1 63 6).toInt; rw [zf_u4 (by decide)]
    | 10 => show ((zf_u m 63 11 x).1 63 10).toInt = (m.1 63 10).toInt; rw [zf_u4 (by decide)]
    | 11 => show ((zf_u m 63 11 x).1 63 11).toInt = _; rw [zf_u3]; rfl
    | 12 => show ((zf_u m 63 11 x).1 63 12).toInt = (m.1 63 12).toInt; rw [zf_u4 (by decide)]
    | n + 13 => rfl
  | n + 6 => rfl
theorem zr_w12 : zr (zf_u m 63 12 x) = zU (zr m) 5 12 x.toInt := by
  funext c k
  match c with
  | 0 =>
    show zN 24 ((zf_u m 63 12 x).1 65) k = zN 24 (m.1 65) k
    rw [zf_u1 (by decide)]
  | 1 =>
    show zN 24 ((zf_u m 63 12 x).1 66) k = zN 24 (m.1 66) k
    rw [zf_u1 (by decide)]
  | 2 =>
    show zN 6 ((zf_u m 63 12 x).1 67) k = zN 6 (m.1 67) k
    rw [zf_u1 (by decide)]
  | 3 =>
    show zN 6 ((zf_u m 63 12 x).1 68) k = zN 6 (m.1 68) k
    rw [zf_u1 (by decide)]
  | 4 =>
    show zN 6 ((zf_u m 63 12 x).1 69) k = zN 6 (m.1 69) k
    rw [zf_u1 (by decide)]
  | 5 =>
    match k with
    | 0 => show ((zf_u m 63 12 x).1 63 4).toInt = (m.1 63 4).toInt; rw [zf_u4 (by decide)]
    | 1 => show ((zf_u m 63 12 x).1 63 5).toInt = (m.1 63 5).toInt; rw [zf_u4 (by decide)]
    | 2 => show ((zf_u m 63 12 x).1 63 9).toInt = (m.1 63 9).toInt; rw [zf_u4 (by decide)]
    | 3 => show ((zf_u m 63 12 x).1 63 7).toInt = (m.1 63 7).toInt; rw [zf_u4 (by decide)]
    | 4 => show ((zf_u m 63 12 x).1 63 8).toInt = (m.1 63 8).toInt; rw [zf_u4 (by decide)]
    | 5 => show ((zf_u m 63 12 x).1 63 0).toInt = (m.1 63 0).toInt; rw [zf_u4 (by decide)]
    | 6 => show ((zf_u m 63 12 x).1 63 1).toInt = (m.1 63 1).toInt; rw [zf_u4 (by decide)]
    | 7 => show ((zf_u m 63 12 x).1 63 2).toInt = (m.1 63 2).toInt; rw [zf_u4 (by decide)]
    | 8 => show ((zf_u m 63 12 x).1 63 3).toInt = (m.1 63 3).toInt; rw [zf_u4 (by decide)]
    | 9 => show ((zf_u m 63 12 x).1 63 6).toInt = (m.1 63 6).toInt; rw [zf_u4 (by decide)]
    | 10 => show ((zf_u m 63 12 x).1 63 10).toInt = (m.1 63 10).toInt; rw [zf_u4 (by decide)]
    | 11 => show ((zf_u m 63 12 x).1 63 11).toInt = (m.1 63 11).toInt; rw [zf_u4 (by decide)]
    | 12 => show ((zf_u m 63 12 x).1 63 12).toInt = _; rw [zf_u3]; rfl
    | n + 13 => rfl
  | n + 6 => rfl
theorem zv_a0 (hd : zD w y r) {p : Nat} (hp : p < 24) : zv w y r (zf_u m (y + 1) p x) = zU (zv w y r m) 0 p x.toInt := by
  funext c k
  match c with
  | 0 =>
    show zN 24 ((zf_u m (y + 1) p x).1 (y + 1)) k = (if 0 = 0 ∧ k = p then x.toInt else zN 24 (m.1 (y + 1)) k)
    rw [zf_u2, zN_up hp]
    by_cases e : k = p
    · rw [if_pos e, if_pos ⟨rfl, e⟩]
    · rw [if_neg e, if_neg (fun z => e z.2)]
  | 1 =>
    show zN 24 ((zf_u m (y + 1) p x).1 (y + 2)) k = zN 24 (m.1 (y + 2)) k
    rw [zf_u1 (by omega)]
  | 2 =>
    show zN 6 ((zf_u m (y + 1) p x).1 (y + 3)) k = zN 6 (m.1 (y + 3)) k
    rw [zf_u1 (by omega)]
  | 3 =>
    show zN 6 ((zf_u m (y + 1) p x).1 (y + 4)) k = zN 6 (m.1 (y + 4)) k
    rw [zf_u1 (by omega)]
  | 4 =>
    show zN 6 ((zf_u m (y + 1) p x).1 r) k = zN 6 (m.1 r) k
    rw [zf_u1 (by omega)]
  | 5 =>
    match k with
    | 0 => show ((zf_u m (y + 1) p x).1 w 3).toInt = (m.1 w 3).toInt; rw [zf_u1 (by omega)]
    | 1 => show ((zf_u m (y + 1) p x).1 w 5).toInt = (m.1 w 5).toInt; rw [zf_u1 (by omega)]
    | 2 => show ((zf_u m (y + 1) p x).1 w 9).toInt = (m.1 w 9).toInt; rw [zf_u1 (by omega)]
    | 3 => show ((zf_u m (y + 1) p x).1 w 7).toInt = (m.1 w 7).toInt; rw [zf_u1 (by omega)]
    | 4 => show ((zf_u m (y + 1) p x).1 w 8).toInt = (m.1 w 8).toInt; rw [zf_u1 (by omega)]
    | 5 => show ((zf_u m (y + 1) p x).1 y 4).toInt = (m.1 y 4).toInt; rw [zf_u1 (by omega)]
    | 6 => show ((zf_u m (y + 1) p x).1 y 5).toInt = (m.1 y 5).toInt; rw [zf_u1 (by omega)]
    | 7 => show ((zf_u m (y + 1) p x).1 w 2).toInt = (m.1 w 2).toInt; rw [zf_u1 (by omega)]
    | 8 => show ((zf_u m (y + 1) p x).1 w 4).toInt = (m.1 w 4).toInt; rw [zf_u1 (by omega)]
    | 9 => show ((zf_u m (y + 1) p x).1 w 6).toInt = (m.1 w 6).toInt; rw [zf_u1 (by omega)]
    | 10 => show ((zf_u m (y + 1) p x).1 w 10).toInt = (m.1 w 10).toInt; rw [zf_u1 (by omega)]
    | 11 => show ((zf_u m (y + 1) p x).1 w 11).toInt = (m.1 w 11).toInt; rw [zf_u1 (by omega)]
    | 12 => show ((zf_u m (y + 1) p x).1 w 12).toInt = (m.1 w 12).toInt; rw [zf_u1 (by omega)]
    | n + 13 => rfl
  | n + 6 => rfl
theorem zv_a1 (hd : zD w y r) {p : Nat} (hp : p < 24) : zv w y r (zf_u m (y + 2) p x) = zU (zv w y r m) 1 p x.toInt := by
  funext c k
  match c with
  | 0 =>
    show zN 24 ((zf_u m (y + 2) p x).1 (y + 1)) k = zN 24 (m.1 (y + 1)) k
    rw [zf_u1 (by omega)]
  | 1 =>
    show zN 24 ((zf_u m (y + 2) p x).1 (y + 2)) k = (if 1 = 1 ∧ k = p then x.toInt else zN 24 (m.1 (y + 2)) k)
    rw [zf_u2, zN_up hp]
    by_cases e : k = p
    · rw [if_pos e, if_pos ⟨rfl, e⟩]
    · rw [if_neg e, if_neg (fun z => e z.2)]
  | 2 =>
    show zN 6 ((zf_u m (y + 2) p x).1 (y + 3)) k = zN 6 (m.1 (y + 3)) k
    rw [zf_u1 (by omega)]
  | 3 =>
    show zN 6 ((zf_u m (y + 2) p x).1 (y + 4)) k = zN 6 (m.1 (y + 4)) k
    rw [zf_u1 (by omega)]
  | 4 =>
    show zN 6 ((zf_u m (y + 2) p x).1 r) k = zN 6 (m.1 r) k
    rw [zf_u1 (by omega)]
  | 5 =>
    match k with
    | 0 => show ((zf_u m (y + 2) p x).1 w 3).toInt = (m.1 w 3).toInt; rw [zf_u1 (by omega)]
    | 1 => show ((zf_u m (y + 2) p x).1 w 5).toInt = (m.1 w 5).toInt; rw [zf_u1 (by omega)]
    | 2 => show ((zf_u m (y + 2) p x).1 w 9).toInt = (m.1 w 9).toInt; rw [zf_u1 (by omega)]
    | 3 => show ((zf_u m (y + 2) p x).1 w 7).toInt = (m.1 w 7).toInt; rw [zf_u1 (by omega)]
    | 4 => show ((zf_u m (y + 2) p x).1 w 8).toInt = (m.1 w 8).toInt; rw [zf_u1 (by omega)]
    | 5 => show ((zf_u m (y + 2) p x).1 y 4).toInt = (m.1 y 4).toInt; rw [zf_u1 (by omega)]
    | 6 => show ((zf_u m (y + 2) p x).1 y 5).toInt = (m.1 y 5).toInt; rw [zf_u1 (by omega)]
    | 7 => show ((zf_u m (y + 2) p x).1 w 2).toInt = (m.1 w 2).toInt; rw [zf_u1 (by omega)]
    | 8 => show ((zf_u m (y + 2) p x).1 w 4).toInt = (m.1 w 4).toInt; rw [zf_u1 (by omega)]
    | 9 => show ((zf_u m (y + 2) p x).1 w 6).toInt = (m.1 w 6).toInt; rw [zf_u1 (by omega)]
    | 10 => show ((zf_u m (y + 2) p x).1 w 10).toInt = (m.1 w 10).toInt; rw [zf_u1 (by omega)]
    | 11 => show ((zf_u m (y + 2) p x).1 w 11).toInt = (m.1 w 11).toInt; rw [zf_u1 (by omega)]
    | 12 => show ((zf_u m (y + 2) p x).1 w 12).toInt = (m.1 w 12).toInt; rw [zf_u1 (by omega)]
    | n + 13 => rfl
  | n + 6 => rfl
theorem zv_a2 (hd : zD w y r) {p : Nat} (hp : p < 6) : zv w y r (zf_u m (y + 3) p x) = zU (zv w y r m) 2 p x.toInt := by
  funext c k
  match c with
  | 0 =>
    show zN 24 ((zf_u m (y + 3) p x).1 (y + 1)) k = zN 24 (m.1 (y + 1)) k
    rw [zf_u1 (by omega)]
  | 1 =>
    show zN 24 ((zf_u m (y + 3) p x).1 (y + 2)) k = zN 24 (m.1 (y + 2)) k
    rw [zf_u1 (by omega)]
  | 2 =>
    show zN 6 ((zf_u m (y + 3) p x).1 (y + 3)) k = (if 2 = 2 ∧ k = p then x.toInt else zN 6 (m.1 (y + 3)) k)
    rw [zf_u2, zN_up hp]
    by_cases e : k = p
    · rw [if_pos e, if_pos ⟨rfl, e⟩]
    · rw [if_neg e, if_neg (fun z => e z.2)]
  | 3 =>
    show zN 6 ((zf_u m (y + 3) p x).1 (y + 4)) k = zN 6 (m.1 (y + 4)) k
    rw [zf_u1 (by omega)]
  | 4 =>
    show zN 6 ((zf_u m (y + 3) p x).1 r) k = zN 6 (m.1 r) k
    rw [zf_u1 (by omega)]
  | 5 =>
    match k with
    | 0 => show ((zf_u m (y + 3) p x).1 w 3).toInt = (m.1 w 3).toInt; rw [zf_u1 (by omega)]
    | 1 => show ((zf_u m (y + 3) p x).1 w 5).toInt = (m.1 w 5).toInt; rw [zf_u1 (by omega)]
    | 2 => show ((zf_u m (y + 3) p x).1 w 9).toInt = (m.1 w 9).toInt; rw [zf_u1 (by omega)]
    | 3 => show ((zf_u m (y + 3) p x).1 w 7).toInt = (m.1 w 7).toInt; rw [zf_u1 (by omega)]
    | 4 => show ((zf_u m (y + 3) p x).1 w 8).toInt = (m.1 w 8).toInt; rw [zf_u1 (by omega)]
    | 5 => show ((zf_u m (y + 3) p x).1 y 4).toInt = (m.1 y 4).toInt; rw [zf_u1 (by omega)]
    | 6 => show ((zf_u m (y + 3) p x).1 y 5).toInt = (m.1 y 5).toInt; rw [zf_u1 (by omega)]
    | 7 => show ((zf_u m (y + 3) p x).1 w 2).toInt = (m.1 w 2).toInt; rw [zf_u1 (by omega)]
    | 8 => show ((zf_u m (y + 3) p x).1 w 4).toInt = (m.1 w 4).toInt; rw [zf_u1 (by omega)]
    | 9 => show ((zf_u m (y + 3) p x).1 w 6).toInt = (m.1 w 6).toInt; rw [zf_u1 (by omega)]
    | 10 => show ((zf_u m (y + 3) p x).1 w 10).toInt = (m.1 w 10).toInt; rw [zf_u1 (by omega)]
    | 11 => show ((zf_u m (y + 3) p x).1 w 11).toInt = (m.1 w 11).toInt; rw [zf_u1 (by omega)]
    | 12 => show ((zf_u m (y + 3) p x).1 w 12).toInt = (m.1 w 12).toInt; rw [zf_u1 (by omega)]
    | n + 13 => rfl
  | n + 6 => rfl
theorem zv_a3 (hd : zD w y r) {p : Nat} (hp : p < 6) : zv w y r (zf_u m (y + 4) p x) = zU (zv w y r m) 3 p x.toInt := by
  funext c k
  match c with
  | 0 =>
    show zN 24 ((zf_u m (y + 4) p x).1 (y + 1)) k = zN 24 (m.1 (y + 1)) k
    rw [zf_u1 (by omega)]
  | 1 =>
    show zN 24 ((zf_u m (y + 4) p x).1 (y + 2)) k = zN 24 (m.1 (y + 2)) k
    rw [zf_u1 (by omega)]
  | 2 =>
    show zN 6 ((zf_u m (y + 4) p x).1 (y + 3)) k = zN 6 (m.1 (y + 3)) k
    rw [zf_u1 (by omega)]
  | 3 =>
    show zN 6 ((zf_u m (y + 4) p x).1 (y + 4)) k = (if 3 = 3 ∧ k = p then x.toInt else zN 6 (m.1 (y + 4)) k)
    rw [zf_u2, zN_up hp]
    by_cases e : k = p
    · rw [if_pos e, if_pos ⟨rfl, e⟩]
    · rw [if_neg e, if_neg (fun z => e z.2)]
  | 4 =>
    show zN 6 ((zf_u m (y + 4) p x).1 r) k = zN 6 (m.1 r) k
    rw [zf_u1 (by omega)]
  | 5 =>
    match k with
    | 0 => show ((zf_u m (y + 4) p x).1 w 3).toInt = (m.1 w 3).toInt; rw [zf_u1 (by omega)]
    | 1 => show ((zf_u m (y + 4) p x).1 w 5).toInt = (m.1 w 5).toInt; rw [zf_u1 (by omega)]
    | 2 => show ((zf_u m (y + 4) p x).1 w 9).toInt = (m.1 w 9).toInt; rw [zf_u1 (by omega)]
    | 3 => show ((zf_u m (y + 4) p x).1 w 7).toInt = (m.1 w 7).toInt; rw [zf_u1 (by omega)]
    | 4 => show ((zf_u m (y + 4) p x).1 w 8).toInt = (m.1 w 8).toInt; rw [zf_u1 (by omega)]
    | 5 => show ((zf_u m (y + 4) p x).1 y 4).toInt = (m.1 y 4).toInt; rw [zf_u1 (by omega)]
    | 6 => show ((zf_u m (y + 4) p x).1 y 5).toInt = (m.1 y 5).toInt; rw [zf_u1 (by omega)]
    | 7 => show ((zf_u m (y + 4) p x).1 w 2).toInt = (m.1 w 2).toInt; rw [zf_u1 (by omega)]
    | 8 => show ((zf_u m (y + 4) p x).1 w 4).toInt = (m.1 w 4).toInt; rw [zf_u1 (by omega)]
    | 9 => show ((zf_u m (y + 4) p x).1 w 6).toInt = (m.1 w 6).toInt; rw [zf_u1 (by omega)]
    | 10 => show ((zf_u m (y + 4) p x).1 w 10).toInt = (m.1 w 10).toInt; rw [zf_u1 (by omega)]
    | 11 => show ((zf_u m (y + 4) p x).1 w 11).toInt = (m.1 w 11).toInt; rw [zf_u1 (by omega)]
    | 12 => show ((zf_u m (y + 4) p x).1 w 12).toInt = (m.1 w 12).toInt; rw [zf_u1 (by omega)]
    | n + 13 => rfl
  | n + 6 => rfl
theorem zv_a4 (hd : zD w y r) {p : Nat} (hp : p < 6) : zv w y r (zf_u m r p x) = zU (zv w y r m) 4 p x.toInt := by
  funext c k
  match c with
  | 0 =>
    show zN 24 ((zf_u m r p x).1 (y + 1)) k = zN 24 (m.1 (y + 1)) k
    rw [zf_u1 (by omega)]
  | 1 =>
    show zN 24 ((zf_u m r p x).1 (y + 2)) k = zN 24 (m.1 (y + 2)) k
    rw [zf_u1 (by omega)]
  | 2 =>
    show zN 6 ((zf_u m r p x).1 (y + 3)) k = zN 6 (m.1 (y + 3)) k
    rw [zf_u1 (by omega)]
  | 3 =>
    show zN 6 ((zf_u m r p x).1 (y + 4)) k = zN 6 (m.1 (y + 4)) k
    rw [zf_u1 (by omega)]
  | 4 =>
    show zN 6 ((zf_u m r p x).1 r) k = (if 4 = 4 ∧ k = p then x.toInt else zN 6 (m.1 r) k)
    rw [zf_u2, zN_up hp]
    by_cases e : k = p
    · rw [if_pos e, if_pos ⟨rfl, e⟩]
    · rw [if_neg e, if_neg (fun z => e z.2)]
  | 5 =>
    match k with
    | 0 => show ((zf_u m r p x).1 w 3).toInt = (m.1 w 3).toInt; rw [zf_u1 (by omega)]
    | 1 => show ((zf_u m r p x).1 w 5).toInt = (m.1 w 5).toInt; rw [zf_u1 (by omega)]
    | 2 => show ((zf_u m r p x).1 w 9).toInt = (m.1 w 9).toInt; rw [zf_u1 (by omega)]
    | 3 => show ((zf_u m r p x).1 w 7).toInt = (m.1 w 7).toInt; rw [zf_u1 (by omega)]
    | 4 => show ((zf_u m r p x).1 w 8).toInt = (m.1 w 8).toInt; rw [zf_u1 (by omega)]
    | 5 => show ((zf_u m r p x).1 y 4).toInt = (m.1 y 4).toInt; rw [zf_u1 (by omega)]
    | 6 => show ((zf_u m r p x).1 y 5).toInt = (m.1 y 5).toInt; rw [zf_u1 (by omega)]
    | 7 => show ((zf_u m r p x).1 w 2).toInt = (m.1 w 2).toInt; rw [zf_u1 (by omega)]
    | 8 => show ((zf_u m r p x).1 w 4).toInt = (m.1 w 4).toInt; rw [zf_u1 (by omega)]
    | 9 => show ((zf_u m r p x).1 w 6).toInt = (m.1 w 6).toInt; rw [zf_u1 (by omega)]
    | 10 => show ((zf_u m r p x).1 w 10).toInt = (m.1 w 10).toInt; rw [zf_u1 (by omega)]
    | 11 => show ((zf_u m r p x).1 w 11).toInt = (m.1 w 11).toInt; rw [zf_u1 (by omega)]
    | 12 => show ((zf_u m r p x).1 w 12).toInt = (m.1 w 12).toInt; rw [zf_u1 (by omega)]
    | n + 13 => rfl
  | n + 6 => rfl
theorem zr_a0 {p : Nat} (hp : p < 24) : zr (zf_u m 65 p x) = zU (zr m) 0 p x.toInt := by
  funext c k
  match c with
  | 0 =>
    show zN 24 ((zf_u m 65 p x).1 65) k = (if 0 = 0 ∧ k = p then x.toInt else zN 24 (m.1 65) k)
    rw [zf_u2, zN_up hp]
    by_cases e : k = p
    · rw [if_pos e, if_pos ⟨rfl, e⟩]
    · rw [if_neg e, if_neg (fun z => e z.2)]
  | 1 =>
    show zN 24 ((zf_u m 65 p x).1 66) k = zN 24 (m.1 66) k
    rw [zf_u1 (by decide)]
  | 2 =>
    show zN 6 ((zf_u m 65 p x).1 67) k = zN 6 (m.1 67) k
    rw [zf_u1 (by decide)]
  | 3 =>
    show zN 6 ((zf_u m 65 p x).1 68) k = zN 6 (m.1 68) k
    rw [zf_u1 (by decide)]
  | 4 =>
    show zN 6 ((zf_u m 65 p x).1 69) k = zN 6 (m.1 69) k
    rw [zf_u1 (by decide)]
  | 5 =>
    match k with
    | 0 => show ((zf_u m 65 p x).1 63 4).toInt = (m.1 63 4).toInt; rw [zf_u1 (by decide)]
    | 1 => show ((zf_u m 65 p x).1 63 5).toInt = (m.1 63 5).toInt; rw [zf_u1 (by decide)]
    | 2 => show ((zf_u m 65 p x).1 63 9).toInt = (m.1 63 9).toInt; rw [zf_u1 (by decide)]
    | 3 => show ((zf_u m 65 p x).1 63 7).toInt = (m.1 63 7).toInt; rw [zf_u1 (by decide)]
    | 4 => show ((zf_u m 65 p x).1 63 8).toInt = (m.1 63 8).toInt; rw [zf_u1 (by decide)]
    | 5 => show ((zf_u m 65 p x).1 63 0).toInt = (m.1 63 0).toInt; rw [zf_u1 (by decide)]
    | 6 => show ((zf_u m 65 p x).1 63 1).toInt = (m.1 63 1).toInt; rw [zf_u1 (by decide)]
    | 7 => show ((zf_u m 65 p x).1 63 2).toInt = (m.1 63 2).toInt; rw [zf_u1 (by decide)]
    | 8 => show ((zf_u m 65 p x).1 63 3).toInt = (m.1 63 3).toInt; rw [zf_u1 (by decide)]
    | 9 => show ((zf_u m 65 p x).1 63 6).toInt = (m.1 63 6).toInt; rw [zf_u1 (by decide)]
    | 10 => show ((zf_u m 65 p x).1 63 10).toInt = (m.1 63 10).toInt; rw [zf_u1 (by decide)]
    | 11 => show ((zf_u m 65 p x).1 63 11).toInt = (m.1 63 11).toInt; rw [zf_u1 (by decide)]
    | 12 => show ((zf_u m 65 p x).1 63 12).toInt = (m.1 63 12).toInt; rw [zf_u1 (by decide)]
    | n + 13 => rfl
  | n + 6 => rfl
theorem zr_a1 {p : Nat} (hp : p < 24) : zr (zf_u m 66 p x) = zU (zr m) 1 p x.toInt := by
  funext c k
  match c with
  | 0 =>
    show zN 24 ((zf_u m 66 p x).1 65) k = zN 24 (m.1 65) k
    rw [zf_u1 (by decide)]
  | 1 =>
    show zN 24 ((zf_u m 66 p x).1 66) k = (if 1 = 1 ∧ k = p then x.toInt else zN 24 (m.1 66) k)
    rw [zf_u2, zN_up hp]
    by_cases e : k = p
    · rw [if_pos e, if_pos ⟨rfl, e⟩]
    · rw [if_neg e, if_neg (fun z => e z.2)]
  | 2 =>
    show zN 6 ((zf_u m 66 p x).1 67) k = zN 6 (m.1 67) k
    rw [zf_u1 (by decide)]
  | 3 =>
    show zN 6 ((zf_u m 66 p x).1 68) k = zN 6 (m.1 68) k
    rw [zf_u1 (by decide)]
  | 4 =>
    show zN 6 ((zf_u m 66 p x).1 69) k = zN 6 (m.1 69) k
    rw [zf_u1 (by decide)]
  | 5 =>
    match k with
    | 0 => show ((zf_u m 66 p x).1 63 4).toInt = (m.1 63 4).toInt; rw [zf_u1 (by decide)]
    | 1 => show ((zf_u m 66 p x).1 63 5).toInt = (m.1 63 5).toInt; rw [zf_u1 (by decide)]
    | 2 => show ((zf_u m 66 p x).1 63 9).toInt = (m.1 63 9).toInt; rw [zf_u1 (by decide)]
    | 3 => show ((zf_u m 66 p x).1 63 7).toInt = (m.1 63 7).toInt; rw [zf_u1 (by decide)]
    | 4 => show ((zf_u m 66 p x).1 63 8).toInt = (m.1 63 8).toInt; rw [zf_u1 (by decide)]
    | 5 => show ((zf_u m 66 p x).1 63 0).toInt = (m.1 63 0).toInt; rw [zf_u1 (by decide)]
    | 6 => show ((zf_u m 66 p x).1 63 1).toInt = (m.1 63 1).toInt; rw [zf_u1 (by decide)]
    | 7 => show ((zf_u m 66 p x).1 63 2).toInt = (m.1 63 2).toInt; rw [zf_u1 (by decide)]
    | 8 => show ((zf_u m 66 p x).1 63 3).toInt = (m.1 63 3).toInt; rw [zf_u1 (by decide)]
    | 9 => show ((zf_u m 66 p x).1 63 6).toInt = (m.1 63 6).toInt; rw [zf_u1 (by decide)]
    | 10 => show ((zf_u m 66 p x).1 63 10).toInt = (m.1 63 10).toInt; rw [zf_u1 (by decide)]
    | 11 => show ((zf_u m 66 p x).1 63 11).toInt = (m.1 63 11).toInt; rw [zf_u1 (by decide)]
    | 12 => show ((zf_u m 66 p x).1 63 12).toInt = (m.1 63 12).toInt; rw [zf_u1 (by decide)]
    | n + 13 => rfl
  | n + 6 => rfl
theorem zr_a2 {p : Nat} (hp : p < 6) : zr (zf_u m 67 p x) = zU (zr m) 2 p x.toInt := by
  funext c k
  match c with
  | 0 =>
    show zN 24 ((zf_u m 67 p x).1 65) k = zN 24 (m.1 65) k
    rw [zf_u1 (by decide)]
  | 1 =>
    show zN 24 ((zf_u m 67 p x).1 66) k = zN 24 (m.1 66) k
    rw [zf_u1 (by decide)]
  | 2 =>
    show zN 6 ((zf_u m 67 p x).1 67) k = (if 2 = 2 ∧ k = p then x.toInt else zN 6 (m.1 67) k)
    rw [zf_u2, zN_up hp]
    by_cases e : k = p
    · rw [if_pos e, if_pos ⟨rfl, e⟩]
    · rw [if_neg e, if_neg (fun z => e z.2)]
  | 3 =>
    show zN 6 ((zf_u m 67 p x).1 68) k = zN 6 (m.1 68) k
    rw [zf_u1 (by decide)]
  | 4 =>
    show zN 6 ((zf_u m 67 p x).1 69) k = zN 6 (m.1 69) k
    rw [zf_u1 (by decide)]
  | 5 =>
    match k with
    | 0 => show ((zf_u m 67 p x).1 63 4).toInt = (m.1 63 4).toInt; rw [zf_u1 (by decide)]
    | 1 => show ((zf_u m 67 p x).1 63 5).toInt = (m.1 63 5).toInt; rw [zf_u1 (by decide)]
    | 2 => show ((zf_u m 67 p x).1 63 9).toInt = (m.1 63 9).toInt; rw [zf_u1 (by decide)]
    | 3 => show ((zf_u m 67 p x).1 63 7).toInt = (m.1 63 7).toInt; rw [zf_u1 (by decide)]
    | 4 => show ((zf_u m 67 p x).1 63 8).toInt = (m.1 63 8).toInt; rw [zf_u1 (by decide)]
    | 5 => show ((zf_u m 67 p x).1 63 0).toInt = (m.1 63 0).toInt; rw [zf_u1 (by decide)]
    | 6 => show ((zf_u m 67 p x).1 63 1).toInt = (m.1 63 1).toInt; rw [zf_u1 (by decide)]
    | 7 => show ((zf_u m 67 p x).1 63 2).toInt = (m.1 63 2).toInt; rw [zf_u1 (by decide)]
    | 8 => show ((zf_u m 67 p x).1 63 3).toInt = (m.1 63 3).toInt; rw [zf_u1 (by decide)]
    | 9 => show ((zf_u m 67 p x).1 63 6).toInt = (m.1 63 6).toInt; rw [zf_u1 (by decide)]
    | 10 => show ((zf_u m 67 p x).1 63 10).toInt = (m.1 63 10).toInt; rw [zf_u1 (by decide)]
    | 11 => show ((zf_u m 67 p x).1 63 11).toInt = (m.1 63 11).toInt; rw [zf_u1 (by decide)]
    | 12 => show ((zf_u m 67 p x).1 63 12).toInt = (m.1 63 12).toInt; rw [zf_u1 (by decide)]
    | n + 13 => rfl
  | n + 6 => rfl
theorem zr_a3 {p : Nat} (hp : p < 6) : zr (zf_u m 68 p x) = zU (zr m) 3 p x.toInt := by
  funext c k
  match c with
  | 0 =>
    show zN 24 ((zf_u m 68 p x).1 65) k = zN 24 (m.1 65) k
    rw [zf_u1 (by decide)]
  | 1 =>
    show zN 24 ((zf_u m 68 p x).1 66) k = zN 24 (m.1 66) k
    rw [zf_u1 (by decide)]
  | 2 =>
    show zN 6 ((zf_u m 68 p x).1 67) k = zN 6 (m.1 67) k
    rw [zf_u1 (by decide)]
  | 3 =>
    show zN 6 ((zf_u m 68 p x).1 68) k = (if 3 = 3 ∧ k = p then x.toInt else zN 6 (m.1 68) k)
    rw [zf_u2, zN_up hp]
    by_cases e : k = p
    · rw [if_pos e, if_pos ⟨rfl, e⟩]
    · rw [if_neg e, if_neg (fun z => e z.2)]
  | 4 =>
    show zN 6 ((zf_u m 68 p x).1 69) k = zN 6 (m.1 69) k
    rw [zf_u1 (by decide)]
  | 5 =>
    match k with
    | 0 => show ((zf_u m 68 p x).1 63 4).toInt = (m.1 63 4).toInt; rw [zf_u1 (by decide)]
    | 1 => show ((zf_u m 68 p x).1 63 5).toInt = (m.1 63 5).toInt; rw [zf_u1 (by decide)]
    | 2 => show ((zf_u m 68 p x).1 63 9).toInt = (m.1 63 9).toInt; rw [zf_u1 (by decide)]
    | 3 => show ((zf_u m 68 p x).1 63 7).toInt = (m.1 63 7).toInt; rw [zf_u1 (by decide)]
    | 4 => show ((zf_u m 68 p x).1 63 8).toInt = (m.1 63 8).toInt; rw [zf_u1 (by decide)]
    | 5 => show ((zf_u m 68 p x).1 63 0).toInt = (m.1 63 0).toInt; rw [zf_u1 (by decide)]
    | 6 => show ((zf_u m 68 p x).1 63 1).toInt = (m.1 63 1).toInt; rw [zf_u1 (by decide)]
    | 7 => show ((zf_u m 68 p x).1 63 2).toInt = (m.1 63 2).toInt; rw [zf_u1 (by decide)]
    | 8 => show ((zf_u m 68 p x).1 63 3).toInt = (m.1 63 3).toInt; rw [zf_u1 (by decide)]
    | 9 => show ((zf_u m 68 p x).1 63 6).toInt = (m.1 63 6).toInt; rw [zf_u1 (by decide)]
    | 10 => show ((zf_u m 68 p x).1 63 10).toInt = (m.1 63 10).toInt; rw [zf_u1 (by decide)]
    | 11 => show ((zf_u m 68 p x).1 63 11).toInt = (m.1 63 11).toInt; rw [zf_u1 (by decide)]
    | 12 => show ((zf_u m 68 p x).1 63 12).toInt = (m.1 63 12).toInt; rw [zf_u1 (by decide)]
    | n + 13 => rfl
  | n + 6 => rfl
theorem zr_a4 {p : Nat} (hp : p < 6) : zr (zf_u m 69 p x) = zU (zr m) 4 p x.toInt := by
  funext c k
  match c with
  | 0 =>
    show zN 24 ((zf_u m 69 p x).1 65) k = zN 24 (m.1 65) k
    rw [zf_u1 (by decide)]
  | 1 =>
    show zN 24 ((zf_u m 69 p x).1 66) k = zN 24 (m.1 66) k
    rw [zf_u1 (by decide)]
  | 2 =>
    show zN 6 ((zf_u m 69 p x).1 67) k = zN 6 (m.1 67) k
    rw [zf_u1 (by decide)]
  | 3 =>
    show zN 6 ((zf_u m 69 p x).1 68) k = zN 6 (m.1 68) k
    rw [zf_u1 (by decide)]
  | 4 =>
    show zN 6 ((zf_u m 69 p x).1 69) k = (if 4 = 4 ∧ k = p then x.toInt else zN 6 (m.1 69) k)
    rw [zf_u2, zN_up hp]
    by_cases e : k = p
    · rw [if_pos e, if_pos ⟨rfl, e⟩]
    · rw [if_neg e, if_neg (fun z => e z.2)]
  | 5 =>
    match k with
    | 0 => show ((zf_u m 69 p x).1 63 4).toInt = (m.1 63 4).toInt; rw [zf_u1 (by decide)]
    | 1 => show ((zf_u m 69 p x).1 63 5).toInt = (m.1 63 5).toInt; rw [zf_u1 (by decide)]
    | 2 => show ((zf_u m 69 p x).1 63 9).toInt = (m.1 63 9).toInt; rw [zf_u1 (by decide)]
    | 3 => show ((zf_u m 69 p x).1 63 7).toInt = (m.1 63 7).toInt; rw [zf_u1 (by decide)]
    | 4 => show ((zf_u m 69 p x).1 63 8).toInt = (m.1 63 8).toInt; rw [zf_u1 (by decide)]
    | 5 => show ((zf_u m 69 p x).1 63 0).toInt = (m.1 63 0).toInt; rw [zf_u1 (by decide)]
    | 6 => show ((zf_u m 69 p x).1 63 1).toInt = (m.1 63 1).toInt; rw [zf_u1 (by decide)]
    | 7 => show ((zf_u m 69 p x).1 63 2).toInt = (m.1 63 2).toInt; rw [zf_u1 (by decide)]
    | 8 => show ((zf_u m 69 p x).1 63 3).toInt = (m.1 63 3).toInt; rw [zf_u1 (by decide)]
    | 9 => show ((zf_u m 69 p x).1 63 6).toInt = (m.1 63 6).toInt; rw [zf_u1 (by decide)]
    | 10 => show ((zf_u m 69 p x).1 63 10).toInt = (m.1 63 10).toInt; rw [zf_u1 (by decide)]
    | 11 => show ((zf_u m 69 p x).1 63 11).toInt = (m.1 63 11).toInt; rw [zf_u1 (by decide)]
    | 12 => show ((zf_u m 69 p x).1 63 12).toInt = (m.1 63 12).toInt; rw [zf_u1 (by decide)]
    | n + 13 => rfl
  | n + 6 => rfl
/-- stores elsewhere -/
theorem zv_fr {m' : zf_Me} (h1 : m'.1 w = m.1 w) (h2 : ∀ a, y ≤ a → a ≤ y + 4 → m'.1 a = m.1 a) (h3 : m'.1 r = m.1 r) : zv w y r m' = zv w y r m := by
  unfold zv
  rw [h1, h2 y (by omega) (by omega), h2 (y + 1) (by omega) (by omega), h2 (y + 2) (by omega) (by omega), h2 (y + 3) (by omega) (by omega), h2 (y + 4) (by omega) (by omega), h3]
theorem zr_fr {m' : zf_Me} (h1 : ∀ k, k < 13 → m'.1 63 k = m.1 63 k) (h2 : ∀ a, 65 ≤ a → a ≤ 69 → m'.1 a = m.1 a) : zr m' = zr m := by
  unfold zr
  rw [h1 0 (by decide), h1 1 (by decide), h1 2 (by decide), h1 3 (by decide), h1 4 (by decide), h1 5 (by decide), h1 6 (by decide), h1 7 (by decide), h1 8 (by decide), h1 9 (by decide), h1 10 (by decide), h1 11 (by decide), h1 12 (by decide), h2 65 (by decide) (by decide), h2 66 (by decide) (by decide), h2 67 (by decide) (by decide), h2 68 (by decide) (by decide), h2 69 (by decide) (by decide)]
end
end
section
/-! part 48: acts as functions; the class's walks keep to them -/
abbrev zrest1 (f : zS) (k : Nat) : Int := if 0 < f 4 k - ((if f 2 k = 3 then 3 else 2) - (if f 5 7 = (k : Int) then 1 else 0)) then f 4 k - ((if f 2 k = 3 then 3 else 2) - (if f 5 7 = (k : Int) then 1 else 0)) else 0
def zrestO (f : zS) (car : Int) (j : Nat) : zS := fun c k => if c = 4 ∧ k < j ∧ ¬ (k : Int) = car then zrest1 f k else f c k
def zrestA (f : zS) (j : Nat) : zS := fun c k => if c = 4 ∧ k < j then (if 0 < f 4 k - 6 then f 4 k - 6 else 0) else f c k
def zwalkd (f : zS) : zS := zU (zrestO (zU (zU (zU f 5 8 (f 5 8 - 1)) 5 9 0) 5 11 (f 5 11 + (9 + zslope f))) (-1) (f 5 6).toNat) 5 10 (f 5 10 + 1)
def zcar1 (f : zS) (a : Nat) : zS := zU (zU f 4 a (f 4 a + zload f a (zslope f))) 5 9 (f 5 9 + 1)
def zcar2 (f : zS) : zS := if f 5 9 % 2 = 0 ∧ f 5 8 < f 5 0 then zU f 5 8 (f 5 8 + 1) else f
def zcar3 (f : zS) (v : Int) : zS := zU f 5 11 (f 5 11 + (if 3 < 6 + v + (if f 5 9 = 1 then 1 else 0) then 6 + v + (if f 5 9 = 1 then 1 else 0) else 3))
def zcarry (f : zS) (a : Nat) : zS := zU (zrestO (zcar3 (zcar2 (zcar1 f a)) (zslope f)) a (f 5 6).toNat) 5 10 (f 5 10 + 1)
def zresta (f : zS) : zS := zrestA (zU (zU (zU f 5 11 (f 5 11 + 10)) 5 9 0) 5 8 (if f 5 8 < f 5 0 then f 5 0 else f 5 8)) (f 5 6).toNat
def zact (f : zS) (a : Int) : zS := if a = 6 then zwalkd f else if a = 7 then zwalkd (zU (zU f 5 3 (f 5 3 - 1)) 5 8 (if f 5 0 + 2 < f 5 8 + 2 then f 5 0 + 2 else f 5 8 + 2)) else if a = 8 then zwalkd (zU (zU f 5 4 (f 5 4 - 1)) 5 8 (if f 5 0 + 2 < f 5 8 + 1 then f 5 0 + 2 else f 5 8 + 1)) else if a = 9 then zresta f else zcarry f a.toNat
theorem zrestO_n {f : zS} {car : Int} {j c k : Nat} (h : ¬ c = 4) : zrestO f car j c k = f c k := if_neg (fun z => h z.1)
theorem zrestO_ge {f : zS} {car : Int} {j k : Nat} (h : j ≤ k) : zrestO f car j 4 k = f 4 k := if_neg (fun z => by omega)
theorem zrestO_0 {f : zS} {car : Int} : zrestO f car 0 = f := by
  funext c k
  exact if_neg (fun z => by omega)
theorem zrestO_skip {f : zS} {car : Int} {j : Nat} (h : (j : Int) = car) : zrestO f car (j + 1) = zrestO f car j := by
  funext c k
  unfold zrestO
  by_cases e : c = 4 ∧ k < j ∧ ¬ (k : Int) = car
  · rw [if_pos e, if_pos ⟨e.1, by omega, e.2.2⟩]
  · rw [if_neg e, if_neg (fun z => e ⟨z.1, by omega, z.2.2⟩)]
theorem zrestO_go {f : zS} {car : Int} {j : Nat} (h : ¬ (j : Int) = car) : zrestO f car (j + 1) = zU (zrestO f car j) 4 j (zrest1 f j) := by
  funext c k
  unfold zU
  by_cases e : c = 4 ∧ k = j
  · obtain ⟨rfl, rfl⟩ := e
    rw [if_pos ⟨rfl, rfl⟩]
    exact if_pos ⟨rfl, by omega, h⟩
  · rw [if_neg e]
    unfold zrestO
    by_cases e2 : c = 4 ∧ k < j ∧ ¬ (k : Int) = car
    · rw [if_pos e2, if_pos ⟨e2.1, by omega, e2.2.2⟩]
    · rw [if_neg e2, if_neg (fun z => e2 ⟨z.1, by have := fun q => e ⟨z.1, q⟩; omega, z.2.2⟩)]
theorem zrestA_n {f : zS} {j c k : Nat} (h : ¬ c = 4) : zrestA f j c k = f c k := if_neg (fun z => h z.1)
theorem zrestA_0 {f : zS} : zrestA f 0 = f := by
  funext c k
  exact if_neg (fun z => by omega)
theorem zrestA_go {f : zS} {j : Nat} : zrestA f (j + 1) = zU (zrestA f j) 4 j (if 0 < f 4 j - 6 then f 4 j - 6 else 0) := by
  funext c k
  unfold zU
  by_cases e : c = 4 ∧ k = j
  · obtain ⟨rfl, rfl⟩ := e
    rw [if_pos ⟨rfl, rfl⟩]
    exact if_pos ⟨rfl, by omega⟩
  · rw [if_neg e]
    unfold zrestA
    by_cases e2 : c = 4 ∧ k < j
    · rw [if_pos e2, if_pos ⟨e2.1, by omega⟩]
    · rw [if_neg e2, if_neg (fun z => e2 ⟨z.1, by have := fun q => e ⟨z.1, q⟩; omega⟩)]
theorem zload_b {f : zS} {p : Nat} {v : Int} (hv : -3 ≤ v ∧ v ≤ 3) (ht : 0 ≤ f 4 p ∧ f 4 p ≤ 99) : 1 ≤ zload f p v ∧ zload f p v ≤ 21 := by
  have b := zmore_b (f 2 p)
  unfold zload zld
  split <;> (try split) <;> (try split) <;> omega
def zgr (f : zS) : Nat → Int
  | 0 => 0
  | n + 1 => if zgr f n < f 4 n then f 4 n else zgr f n
section
variable {w y r : Nat} {m : zf_Me}
theorem zs_53 (hB : zB (zv w y r m)) {v : Int32} {Q : Bool → zf_Me → Prop} (hq : ∀ b, (b = true ↔ zcarryOk (zv w y r m) v.toInt) → Q b m) : wp_53 w y r v m Q := by
  have b := zB_v hB
  unfold wp_53
  refine zs_65 (fun b1 h1 => ⟨fun e => hq false (zb_f (fun z => by rw [h1.mpr z.1] at e; cases e)), fun e => ?_⟩)
  have hp := h1.mp e
  refine zs_47 (fun b2 h2 => ⟨fun e2 => ?_, fun e2 => hq false (zb_f (fun z => (h2.mp e2) z.2.1))⟩)
  have hh : (m.1 w 10).toInt < (m.1 y 4).toInt := Decidable.byContradiction (fun z => by rw [h2.mpr z] at e2; cases e2)
  have b2 := zB_v2 hB (k := (m.1 w 10).toInt.toNat) (by omega)
  have b3 := zB_v3 hB (k := v.toInt.toNat) (by omega)
  have a2 : zv w y r m 2 v.toInt.toNat = (m.1 (y + 3) v.toInt.toNat).toInt := zN_lt (by omega)
  have a4 : zv w y r m 4 v.toInt.toNat = (m.1 r v.toInt.toNat).toInt := zN_lt (by omega)
  have sl : zslope (zv w y r m) = (m.1 (y + 1) (m.1 w 10).toInt.toNat).toInt := zN_lt (k := (m.1 w 10).toInt.toNat) (by omega)
  have key : zcarryOk (zv w y r m) v.toInt ↔ ((0 ≤ v.toInt ∧ v.toInt < (m.1 y 5).toInt) ∧ (m.1 w 10).toInt < (m.1 y 4).toInt ∧ ¬ (((m.1 (y + 3) v.toInt.toNat).toInt = 2 ∨ (m.1 (y + 3) v.toInt.toNat).toInt = 5) ∧ (m.1 w 6).toInt < (m.1 w 5).toInt) ∧ ¬ ((m.1 (y + 3) v.toInt.toNat).toInt = 6 ∧ 1 < (m.1 (y + 1) (m.1 w 10).toInt.toNat).toInt) ∧ (m.1 r v.toInt.toNat).toInt + zload (zv w y r m) v.toInt.toNat (m.1 (y + 1) (m.1 w 10).toInt.toNat).toInt ≤ (m.1 w 9).toInt) := by
    unfold zcarryOk
    rw [a2, sl, a4]
    exact Iff.rfl
  have lb := zload_b (f := zv w y r m) (p := v.toInt.toNat) (v := (m.1 (y + 1) (m.1 w 10).toInt.toNat).toInt) (by omega) (by omega)
  have t75 : ¬ (((m.1 (y + 3) v.toInt.toNat).toInt = 2 ∨ (m.1 (y + 3) v.toInt.toNat).toInt = 5) ∧ (m.1 w 6).toInt < (m.1 w 5).toInt) → ¬ ((m.1 (y + 3) v.toInt.toNat).toInt = 6 ∧ 1 < (m.1 (y + 1) (m.1 w 10).toInt.toNat).toInt) → wq_53_75 w y r v (m.1 (y + 1) (m.1 w 10).toInt.toNat) m Q := by
    intro g1 g2
    refine ⟨⟨by omega, by omega⟩, zs_51 hB (by omega) (by omega) (fun x hx => ?_)⟩
    have s := fb_addI (x := m.1 r v.toInt.toNat) (y := x) (by omega) (by omega)
    exact ⟨fun g => hq false (zb_f (fun z => by have := (key.mp z).2.2.2.2; omega)), fun g => hq true (zb_t (key.mpr ⟨hp, hh, g1, g2, by omega⟩))⟩
  have t62 : ¬ (((m.1 (y + 3) v.toInt.toNat).toInt = 2 ∨ (m.1 (y + 3) v.toInt.toNat).toInt = 5) ∧ (m.1 w 6).toInt < (m.1 w 5).toInt) → wq_53_62 w y r v (m.1 (y + 3) v.toInt.toNat) (m.1 (y + 1) (m.1 w 10).toInt.toNat) m Q := fun g1 =>
    ⟨fun g => t75 g1 (fun z => g z.1), fun g => ⟨fun g2 => t75 g1 (fun z => by omega), fun g2 => hq false (zb_f (fun z => (key.mp z).2.2.2.1 ⟨g, by omega⟩))⟩⟩
  have t53 : ((m.1 (y + 3) v.toInt.toNat).toInt = 2 ∨ (m.1 (y + 3) v.toInt.toNat).toInt = 5) → wq_53_53 w y r v (m.1 (y + 3) v.toInt.toNat) (m.1 (y + 1) (m.1 w 10).toInt.toNat) m Q := fun g1 =>
    zs_48 (fun b5 h5 => ⟨fun e5 => t62 (fun z => (h5.mp e5) z.2), fun e5 => hq false (zb_f (fun z => (key.mp z).2.2.1 ⟨g1, Decidable.byContradiction (fun q => by rw [h5.mpr q] at e5; cases e5)⟩))⟩)
  exact ⟨⟨by omega, by omega⟩, ⟨by omega, by omega⟩, fun g => t53 (Or.inl g), fun g => ⟨fun g2 => t62 (fun z => by omega), fun g2 => t53 (Or.inr g2)⟩⟩
theorem zs_52 (hB : zB (zv w y r m)) {v : Int32} {Q : Bool → zf_Me → Prop} (hq : ∀ b, (b = true ↔ zmay (zv w y r m) v.toInt) → Q b m) : wp_52 w y r v m Q := by
  have wk : ∀ b : Bool, (b = true ↔ zwalkOk (zv w y r m)) → ∀ (n : Int), (zmay (zv w y r m) v.toInt ↔ zwalkOk (zv w y r m) ∧ 1 ≤ n) → (b = false → Q false m) ∧ (b = true → (n < 1 → Q false m) ∧ (n ≥ 1 → Q true m)) := fun b hb n hn =>
    ⟨fun e => hq false (zb_f (fun z => by rw [hb.mpr (hn.mp z).1] at e; cases e)), fun e => ⟨fun g => hq false (zb_f (fun z => by have := (hn.mp z).2; omega)), fun g => hq true (zb_t (hn.mpr ⟨hb.mp e, g⟩))⟩⟩
  refine ⟨fun g => zs_53 hB (fun b hb => hq b (hb.trans ⟨fun z => Or.inr (Or.inr (Or.inr (Or.inr ⟨by omega, by omega, by omega, by omega, z⟩))), fun z => ?_⟩)), fun g => zs_54 (fun b hb => wk b hb _ ?_), fun g => zs_54 (fun b hb => wk b hb _ ?_), fun g => zs_54 (fun b hb => wk b hb _ ?_), fun g => zs_55 hB (fun b hb => hq b (hb.trans ⟨fun z => Or.inr (Or.inr (Or.inr (Or.inl ⟨g, z⟩))), fun z => ?_⟩))⟩
  · rcases z with z | z | z | z | z
    · omega
    · omega
    · omega
    · omega
    · exact z.2.2.2.2
  · constructor
    · rintro (z | z | z | z | z)
      · exact ⟨z.2.1, z.2.2⟩
      · omega
      · omega
      · omega
      · omega
    · exact fun z => Or.inl ⟨g, z.1, z.2⟩
  · constructor
    · rintro (z | z | z | z | z)
      · omega
      · exact ⟨z.2.1, z.2.2⟩
      · omega
      · omega
      · omega
    · exact fun z => Or.inr (Or.inl ⟨g, z.1, z.2⟩)
  · constructor
    · rintro (z | z | z | z | z)
      · omega
      · omega
      · exact ⟨z.2.1, z.2.2⟩
      · omega
      · omega
    · exact fun z => Or.inr (Or.inr (Or.inl ⟨g, z.1, z.2⟩))
  · rcases z with z | z | z | z | z
    · omega
    · omega
    · omega
    · exact z.2
    · omega
theorem zs_49 (hB : zB (zv w y r m)) {Q : Int32 → zf_Me → Prop} (hq : ∀ x : Int32, x.toInt = zgr (zv w y r m) (m.1 y 5).toInt.toNat → Q x m) : wp_49 w y r m Q := by
  have b := zB_v hB
  have e1 : (1 : Int32).toInt = 1 := rfl
  have lp : ∀ (n : Nat) (v1 v2 : Int32), 0 ≤ v2.toInt → v2.toInt ≤ (m.1 y 5).toInt → (m.1 y 5).toInt - v2.toInt < n → v1.toInt = zgr (zv w y r m) v2.toInt.toNat → wq_49_4 w y r Q n v1 v2 m := by
    intro n
    induction n with
    | zero => intro v1 v2 h0 h1 h2; omega
    | succ n ih =>
      intro v1 v2 h0 h1 h2 h3
      have s := fb_addI (x := v2) (y := 1) (by omega) (by omega)
      refine ⟨fun g => hq v1 (by rw [h3, show v2.toInt = (m.1 y 5).toInt by omega]), fun g => ⟨⟨by omega, by omega⟩, ih _ _ (by omega) (by omega) (by omega) ?_⟩⟩
      rw [zi_max, h3, s, e1, show (v2.toInt + 1).toNat = v2.toInt.toNat + 1 by omega]
      have a4 : zv w y r m 4 v2.toInt.toNat = (m.1 r v2.toInt.toNat).toInt := zN_lt (by omega)
      show _ = if _ < _ then _ else _
      rw [a4]
  have e0 : (0 : Int32).toInt = 0 := rfl
  exact ⟨7, lp 7 0 0 (by omega) (by omega) (by omega) rfl⟩
end
end
section
/-! part 49: the class's acts -/
section
variable {w y r : Nat} {m : zf_Me}
/-- only these cells' ints may differ, no long -/
def zfr (P : Nat → Prop) (m m' : zf_Me) : Prop := (∀ a, ¬ P a → m'.1 a = m.1 a) ∧ m'.2 = m.2
theorem zfr_refl {P : Nat → Prop} {m : zf_Me} : zfr P m m := ⟨fun _ _ => rfl, rfl⟩
theorem zfr_trans {P : Nat → Prop} {a b c : zf_Me} (h : zfr P a b) (k : zfr P b c) : zfr P a c := ⟨fun i hi => (k.1 i hi).trans (h.1 i hi), k.2.trans h.2⟩
theorem zfr_u {P : Nat → Prop} {m m' : zf_Me} {c k : Nat} {x : Int32} (h : zfr P m m') (hc : P c) : zfr P m (zf_u m' c k x) := ⟨fun i hi => (zf_u1 (fun e => hi (by rw [e]; exact hc))).trans (h.1 i hi), h.2⟩
theorem zfr_mono {P P' : Nat → Prop} {m m' : zf_Me} (h : zfr P m m') (hp : ∀ a, P a → P' a) : zfr P' m m' := ⟨fun a ha => h.1 a (fun z => ha (hp a z)), h.2⟩
theorem zs_118 {k : Int32} {Q : Int32 → zf_Me → Prop} (hq : ∀ x : Int32, x.toInt = (if k.toInt = 3 then 3 else 2) → Q x m) : wp_118 k m Q := by
  unfold wp_118
  refine ⟨fun g => hq _ ?_, fun g => hq _ ?_⟩
  · first | (rw [if_neg g]; rfl) | (rw [if_pos g]; rfl)
  · first | (rw [if_pos g]; rfl) | (rw [if_neg g]; rfl)
theorem zs_59 (hd : zD w y r) (hB : zB3 (zv w y r m)) (hp : 0 ≤ (m.1 y 5).toInt ∧ (m.1 y 5).toInt ≤ 6) {car : Int32} {Q : zf_Me → Prop} (hq : ∀ m', zv w y r m' = zrestO (zv w y r m) car.toInt (m.1 y 5).toInt.toNat → zfr (fun a => a = r) m m' → Q m') : wp_59 w y r car m Q := by
  have e1 : (1 : Int32).toInt = 1 := rfl
  have e0 : (0 : Int32).toInt = 0 := rfl
  have lp : ∀ (n : Nat) (v2 : Int32) (mj : zf_Me), 0 ≤ v2.toInt → v2.toInt ≤ (m.1 y 5).toInt → (m.1 y 5).toInt - v2.toInt < n → zv w y r mj = zrestO (zv w y r m) car.toInt v2.toInt.toNat → zfr (fun a => a = r) m mj → wq_59_2 w y r car Q n v2 mj := by
    intro n
    induction n with
    | zero => intro v2 mj h0 h1 h2; omega
    | succ n ih =>
      intro v2 mj h0 h1 h2 hz hf
      have fy : mj.1 y = m.1 y := hf.1 y (by omega)
      have fw : mj.1 w = m.1 w := hf.1 w (by omega)
      have f3 : mj.1 (y + 3) = m.1 (y + 3) := hf.1 (y + 3) (by omega)
      have s := fb_addI (x := v2) (y := 1) (by omega) (by omega)
      have e2 : (v2 + 1).toInt.toNat = v2.toInt.toNat + 1 := by omega
      unfold wq_59_2
      rw [fy]
      refine ⟨fun g => hq mj (by rw [hz, show v2.toInt = (m.1 y 5).toInt by omega]) hf, fun g => ⟨fun g2 => ih _ mj (by omega) (by omega) (by omega) ?_ hf, fun g2 => ⟨⟨by omega, by omega⟩, zs_118 (fun x hx => ?_)⟩⟩⟩
      · rw [hz, e2, zrestO_skip (by omega)]
      · have b3 := hB v2.toInt.toNat (by omega)
        have a4 : (mj.1 r v2.toInt.toNat).toInt = zv w y r m 4 v2.toInt.toNat := by
          have z : zv w y r mj 4 v2.toInt.toNat = (mj.1 r v2.toInt.toNat).toInt := zN_lt (by omega)
          rw [← z, hz, zrestO_ge (by omega)]
        have a2 : (m.1 (y + 3) v2.toInt.toNat).toInt = zv w y r m 2 v2.toInt.toNat := (zN_lt (by omega)).symm
        have a7 : (m.1 w 2).toInt = zv w y r m 5 7 := rfl
        rw [f3, a2] at hx
        have fin : ∀ u0 : Int32, u0.toInt = (if zv w y r m 5 7 = (v2.toInt.toNat : Int) then 1 else 0) → wq_59_43 w y r car (wq_59_2 w y r car Q n) v2 u0 x mj Q := by
          intro u0 hu
          refine ⟨⟨by omega, by omega⟩, ⟨by omega, by omega⟩, fun m3 e3 => ih _ m3 (by omega) (by omega) (by omega) ?_ ?_⟩
          · rw [e3, zv_a4 hd (by omega), hz, e2, zrestO_go (by omega)]
            congr 1
            have xb : 0 ≤ x.toInt ∧ x.toInt ≤ 3 := by rw [hx]; split <;> omega
            have ub : 0 ≤ u0.toInt ∧ u0.toInt ≤ 1 := by rw [hu]; split <;> omega
            have s2 := fb_subI (x := x) (y := u0) (by omega) (by omega)
            have s3 := fb_subI (x := mj.1 r v2.toInt.toNat) (y := x - u0) (by omega) (by omega)
            rw [zi_max, s3, s2, a4, hx, hu, e0]
          · rw [e3]
            exact zfr_u hf rfl
        rw [fw]
        exact ⟨fun g3 => fin 0 (by rw [← a7, if_neg (by omega)]; rfl), fun g3 => fin 1 (by rw [← a7, if_pos (by omega)]; rfl)⟩
  exact ⟨7, lp 7 0 m (by omega) (by omega) (by omega) zrestO_0.symm zfr_refl⟩
abbrev zfw (w r : Nat) (m m' : zf_Me) : Prop := zfr (fun a => a = w ∨ a = r) m m'
theorem zB3_u5 {f : zS} {k : Nat} {x : Int} (h : zB3 f) : zB3 (zU f 5 k x) := by
  intro j hj
  have := h j hj
  rw [zU_o (by omega), zU_o (by omega), zU_o (by omega)]
  exact this
/-- what walking asks: bounds and a furlong ahead -/
theorem zs_57 (hd : zD w y r) (h2 : zB2 (zv w y r m)) (h3 : zB3 (zv w y r m)) (hb : 0 ≤ (m.1 y 5).toInt ∧ (m.1 y 5).toInt ≤ 6 ∧ 0 ≤ (m.1 w 10).toInt ∧ (m.1 w 10).toInt < 24 ∧ 0 ≤ (m.1 w 11).toInt ∧ (m.1 w 11).toInt ≤ 2000 ∧ 0 ≤ (m.1 w 4).toInt ∧ (m.1 w 4).toInt ≤ 20) {Q : zf_Me → Prop} (hq : ∀ m', zv w y r m' = zwalkd (zv w y r m) → zfw w r m m' → Q m') : wp_57 w y r m Q := by
  have e1 : (1 : Int32).toInt = 1 := rfl
  have e0 : (0 : Int32).toInt = 0 := rfl
  have e9 : (9 : Int32).toInt = 9 := rfl
  have en : (-1 : Int32).toInt = -1 := rfl
  intro m1 q1 m3 q3
  have z1 : zv w y r m1 = zU (zv w y r m) 5 8 ((m.1 w 4).toInt - 1) := by
    rw [q1, zv_w4 hd, fb_subI (by omega) (by omega), e1]
  have z3 : zv w y r m3 = zU (zU (zv w y r m) 5 8 ((m.1 w 4).toInt - 1)) 5 9 0 := by
    rw [q3, zv_w6 hd, z1, e0]
  have f3 : zfw w r m m3 := by
    rw [q3, q1]
    exact zfr_u (zfr_u zfr_refl (Or.inl rfl)) (Or.inl rfl)
  have c10 : (m3.1 w 10).toInt = (m.1 w 10).toInt := by
    show zv w y r m3 5 10 = _
    rw [z3]
    rfl
  have c11 : (m3.1 w 11).toInt = (m.1 w 11).toInt := by
    show zv w y r m3 5 11 = _
    rw [z3]
    rfl
  have fy1 : m3.1 (y + 1) = m.1 (y + 1) := f3.1 (y + 1) (by omega)
  have sl : zslope (zv w y r m) = (m.1 (y + 1) (m.1 w 10).toInt.toNat).toInt := zN_lt (k := (m.1 w 10).toInt.toNat) (by omega)
  have b2 := (h2 (m.1 w 10).toInt.toNat (by omega))
  have b2' : zv w y r m 0 (m.1 w 10).toInt.toNat = (m.1 (y + 1) (m.1 w 10).toInt.toNat).toInt := zN_lt (by omega)
  rw [b2'] at b2
  refine ⟨⟨by omega, by omega⟩, fun m5 q5 => ?_⟩
  have s1 := fb_addI (x := 9) (y := m.1 (y + 1) (m.1 w 10).toInt.toNat) (by omega) (by omega)
  have z5 : zv w y r m5 = zU (zU (zU (zv w y r m) 5 8 ((m.1 w 4).toInt - 1)) 5 9 0) 5 11 ((m.1 w 11).toInt + (9 + zslope (zv w y r m))) := by
    rw [q5, zv_w11 hd, z3, c10, fy1, fb_addI (by omega) (by omega), s1, c11, sl, e9]
  have f5 : zfw w r m m5 := by
    rw [q5]
    exact zfr_u f3 (Or.inl rfl)
  have fy5 : m5.1 y = m.1 y := f5.1 y (by omega)
  have b3 : zB3 (zv w y r m5) := by
    rw [z5]
    exact zB3_u5 (zB3_u5 (zB3_u5 h3))
  refine zs_59 hd b3 (by rw [fy5]; omega) (fun m8 z8 f8 m9 q9 => hq m9 ?_ ?_)
  · have c8 : (m8.1 w 10).toInt = (m.1 w 10).toInt := by
      have : m8.1 w = m5.1 w := f8.1 w (by omega)
      rw [this]
      show zv w y r m5 5 10 = _
      rw [z5]
      rfl
    rw [q9, zv_w10 hd, z8, z5, fy5, fb_addI (by omega) (by omega), c8, e1, en]
    rfl
  · rw [q9]
    exact zfr_u (zfr_trans f5 (zfr_mono f8 (fun a ha => Or.inr ha))) (Or.inl rfl)
theorem zs_60 (hd : zD w y r) (h3 : zB3 (zv w y r m)) (hb : 0 ≤ (m.1 y 5).toInt ∧ (m.1 y 5).toInt ≤ 6 ∧ 0 ≤ (m.1 w 11).toInt ∧ (m.1 w 11).toInt ≤ 2000) {Q : zf_Me → Prop} (hq : ∀ m', zv w y r m' = zresta (zv w y r m) → zfw w r m m' → Q m') : wp_60 w y r m Q := by
  have e1 : (1 : Int32).toInt = 1 := rfl
  have e0 : (0 : Int32).toInt = 0 := rfl
  have e6 : (6 : Int32).toInt = 6 := rfl
  have e10 : (10 : Int32).toInt = 10 := rfl
  intro m1 q1 m3 q3 m5 q5
  have z1 : zv w y r m1 = zU (zv w y r m) 5 11 ((m.1 w 11).toInt + 10) := by
    rw [q1, zv_w11 hd, fb_addI (by omega) (by omega), e10]
  have z3 : zv w y r m3 = zU (zU (zv w y r m) 5 11 ((m.1 w 11).toInt + 10)) 5 9 0 := by
    rw [q3, zv_w6 hd, z1, e0]
  have c3 : (m3.1 w 3).toInt = (m.1 w 3).toInt := by
    show zv w y r m3 5 0 = _
    rw [z3]
    rfl
  have c4 : (m3.1 w 4).toInt = (m.1 w 4).toInt := by
    show zv w y r m3 5 8 = _
    rw [z3]
    rfl
  have z5 : zv w y r m5 = zU (zU (zU (zv w y r m) 5 11 ((m.1 w 11).toInt + 10)) 5 9 0) 5 8 (if (m.1 w 4).toInt < (m.1 w 3).toInt then (m.1 w 3).toInt else (m.1 w 4).toInt) := by
    rw [q5, zv_w4 hd, z3, zi_max, c3, c4]
  have f5 : zfw w r m m5 := by
    rw [q5, q3, q1]
    exact zfr_u (zfr_u (zfr_u zfr_refl (Or.inl rfl)) (Or.inl rfl)) (Or.inl rfl)
  have b3 : zB3 (zv w y r m5) := by
    rw [z5]
    exact zB3_u5 (zB3_u5 (zB3_u5 h3))
  have fy5 : m5.1 y = m.1 y := f5.1 y (by omega)
  have lp : ∀ (n : Nat) (v : Int32) (mj : zf_Me), 0 ≤ v.toInt → v.toInt ≤ (m.1 y 5).toInt → (m.1 y 5).toInt - v.toInt < n → zv w y r mj = zrestA (zv w y r m5) v.toInt.toNat → zfr (fun a => a = r) m5 mj → wq_60_33 w y r Q n v mj := by
    intro n
    induction n with
    | zero => intro v mj h0 h1 h2; omega
    | succ n ih =>
      intro v mj h0 h1 h2 hz hf
      have fy : mj.1 y = m.1 y := (hf.1 y (by omega)).trans fy5
      have s := fb_addI (x := v) (y := 1) (by omega) (by omega)
      have e2 : (v + 1).toInt.toNat = v.toInt.toNat + 1 := by omega
      unfold wq_60_33
      rw [fy]
      refine ⟨fun g => hq mj ?_ (zfr_trans f5 (zfr_mono hf (fun a ha => Or.inr ha))), fun g => ⟨⟨by omega, by omega⟩, ⟨by omega, by omega⟩, fun m7 q7 => ih _ m7 (by omega) (by omega) (by omega) ?_ (by rw [q7]; exact zfr_u hf rfl)⟩⟩
      · rw [hz, z5, show v.toInt = (m.1 y 5).toInt by omega]
        rfl
      · have b := b3 v.toInt.toNat (by omega)
        have a4 : (mj.1 r v.toInt.toNat).toInt = zv w y r m5 4 v.toInt.toNat := by
          have z : zv w y r mj 4 v.toInt.toNat = (mj.1 r v.toInt.toNat).toInt := zN_lt (by omega)
          rw [← z, hz]
          exact if_neg (fun z => by omega)
        have s3 := fb_subI (x := mj.1 r v.toInt.toNat) (y := 6) (by omega) (by omega)
        rw [q7, zv_a4 hd (by omega), hz, e2, zrestA_go, zi_max, s3, a4, e0, e6]
  exact ⟨7, lp 7 0 m5 (by omega) (by omega) (by omega) zrestA_0.symm zfr_refl⟩
end
end
section
/-! part 50: the class's acts, on; bounds behind an act -/
theorem zf_divG {x y : Int32} (h : 0 ≤ x.toInt) (hy : 0 < y.toInt) : (x / y).toInt = x.toInt / y.toInt := by
  rw [Int32.toInt_div, Int.tdiv_eq_ediv_of_nonneg h]
  have := fb_rng x
  have h1 := Int.ediv_nonneg h (show 0 ≤ y.toInt by omega)
  have h2 := Int.ediv_le_self y.toInt h
  exact fb_bmod (by omega) (by omega)
theorem zf_remG {x y : Int32} (h : 0 ≤ x.toInt) (hy : 0 < y.toInt) : (x - x / y * y).toInt = x.toInt % y.toInt := by
  have hd := zf_divG h hy
  have := fb_rng x
  have h3 : x.toInt / y.toInt * y.toInt ≤ x.toInt := Int.ediv_mul_le _ (by omega)
  have h4 : 0 ≤ x.toInt / y.toInt * y.toInt := Int.mul_nonneg (Int.ediv_nonneg h (by omega)) (by omega)
  have hm := fb_mulI (x := x / y) (y := y) (by rw [hd]; omega) (by rw [hd]; omega)
  rw [fb_subI (by rw [hm, hd]; omega) (by rw [hm, hd]; omega), hm, hd, Int.emod_def, Int.mul_comm]
theorem zcar2_o {f : zS} {c k : Nat} (h : ¬ (c = 5 ∧ k = 8)) : zcar2 f c k = f c k := by
  unfold zcar2
  split
  · exact zU_o h
  · rfl
theorem zB3_u4 {f : zS} {k : Nat} {x : Int} (h : zB3 f) (hx : 0 ≤ x ∧ x ≤ 99) : zB3 (zU f 4 k x) := by
  intro j hj
  have := h j hj
  rw [zU_o (by omega), zU_o (by omega)]
  by_cases e : j = k
  · subst e
    rw [zU_s]
    omega
  · rw [zU_o (by omega)]
    exact this
theorem zB3_c2 {f : zS} (h : zB3 f) : zB3 (zcar2 f) := by
  unfold zcar2
  split
  · exact zB3_u5 h
  · exact h
section
variable {w y r : Nat} {m : zf_Me}
theorem zs_58 (hd : zD w y r) (hB : zB (zv w y r m)) {p : Int32} (hc : zcarryOk (zv w y r m) p.toInt) {Q : zf_Me → Prop} (hq : ∀ m', zv w y r m' = zcarry (zv w y r m) p.toInt.toNat → zfw w r m m' → Q m') : wp_58 w y r p m Q := by
  have e0 : (0 : Int32).toInt = 0 := rfl
  have e1 : (1 : Int32).toInt = 1 := rfl
  have e2 : (2 : Int32).toInt = 2 := rfl
  have e3 : (3 : Int32).toInt = 3 := rfl
  have e6 : (6 : Int32).toInt = 6 := rfl
  have b := zB_v hB
  have hp : 0 ≤ p.toInt ∧ p.toInt < (m.1 y 5).toInt := hc.1
  have hh : (m.1 w 10).toInt < (m.1 y 4).toInt := hc.2.1
  have hl : zv w y r m 4 p.toInt.toNat + zload (zv w y r m) p.toInt.toNat (zslope (zv w y r m)) ≤ (m.1 w 9).toInt := hc.2.2.2.2
  have sl : zslope (zv w y r m) = (m.1 (y + 1) (m.1 w 10).toInt.toNat).toInt := zN_lt (k := (m.1 w 10).toInt.toNat) (by omega)
  have b2 := zB_v2 hB (k := (m.1 w 10).toInt.toNat) (by omega)
  have b3 := zB_v3 hB (k := p.toInt.toNat) (by omega)
  have a4 : zv w y r m 4 p.toInt.toNat = (m.1 r p.toInt.toNat).toInt := zN_lt (by omega)
  have lb := zload_b (f := zv w y r m) (p := p.toInt.toNat) (v := zslope (zv w y r m)) (by omega) (by omega)
  refine ⟨⟨by omega, by omega⟩, ⟨by omega, by omega⟩, zs_51 hB (by omega) (by omega) (fun x hx => ⟨⟨by omega, by omega⟩, fun m3 q3 m5 q5 => ?_⟩)⟩
  rw [← sl] at hx
  have z3 : zv w y r m3 = zU (zv w y r m) 4 p.toInt.toNat (zv w y r m 4 p.toInt.toNat + zload (zv w y r m) p.toInt.toNat (zslope (zv w y r m))) := by
    rw [q3, zv_a4 hd (by omega), fb_addI (by omega) (by omega), hx, a4]
  have c9 : (m3.1 w 6).toInt = (m.1 w 6).toInt := by
    show zv w y r m3 5 9 = _
    rw [z3]
    rfl
  have z5 : zv w y r m5 = zcar1 (zv w y r m) p.toInt.toNat := by
    rw [q5, zv_w6 hd, z3, fb_addI (by omega) (by omega), c9, e1]
    rfl
  have f5 : zfw w r m m5 := by
    rw [q5, q3]
    exact zfr_u (zfr_u zfr_refl (Or.inr rfl)) (Or.inl rfl)
  have t68 : ∀ m', zv w y r m' = zcar2 (zcar1 (zv w y r m) p.toInt.toNat) → zfw w r m m' → wq_58_68 w y r p (m.1 (y + 1) (m.1 w 10).toInt.toNat) m' Q := by
    intro m' z' f'
    have c9 : (m'.1 w 6).toInt = (m.1 w 6).toInt + 1 := by
      show zv w y r m' 5 9 = _
      rw [z', zcar2_o (by decide)]
      rfl
    have c11 : (m'.1 w 11).toInt = (m.1 w 11).toInt := by
      show zv w y r m' 5 11 = _
      rw [z', zcar2_o (by decide)]
      rfl
    have t91 : ∀ u0 : Int32, u0.toInt = (if (m'.1 w 6).toInt = 1 then 1 else 0) → wq_58_91 w y r p u0 (6 + (m.1 (y + 1) (m.1 w 10).toInt.toNat)) 3 (m'.1 w 11) m' Q := by
      intro u0 hu m7 q7
      have ub : 0 ≤ u0.toInt ∧ u0.toInt ≤ 1 := by rw [hu]; split <;> omega
      have s1 := fb_addI (x := 6) (y := m.1 (y + 1) (m.1 w 10).toInt.toNat) (by omega) (by omega)
      have s2 := fb_addI (x := 6 + m.1 (y + 1) (m.1 w 10).toInt.toNat) (y := u0) (by omega) (by omega)
      have s3 := zi_max (x := 3) (y := 6 + m.1 (y + 1) (m.1 w 10).toInt.toNat + u0)
      have s4 := fb_addI (x := m'.1 w 11) (y := if 3 < 6 + m.1 (y + 1) (m.1 w 10).toInt.toNat + u0 then 6 + m.1 (y + 1) (m.1 w 10).toInt.toNat + u0 else 3) (by rw [s3]; split <;> omega) (by rw [s3]; split <;> omega)
      have z7 : zv w y r m7 = zcar3 (zcar2 (zcar1 (zv w y r m) p.toInt.toNat)) (zslope (zv w y r m)) := by
        rw [q7, zv_w11 hd, s4, s3, s2, s1, e3, e6, hu, z', sl]
        unfold zcar3
        rw [← z']
        rfl
      have f7 : zfw w r m m7 := by
        rw [q7]
        exact zfr_u f' (Or.inl rfl)
      have fy : m7.1 y = m.1 y := f7.1 y (by omega)
      have h3 : zB3 (zv w y r m7) := by
        rw [z7]
        exact zB3_u5 (zB3_c2 (zB3_u5 (zB3_u4 hB.2.2 (by omega))))
      refine zs_59 hd h3 (by rw [fy]; omega) (fun m10 z10 f10 m11 q11 => hq m11 ?_ ?_)
      · have c10 : (m10.1 w 10).toInt = (m.1 w 10).toInt := by
          have : m10.1 w = m7.1 w := f10.1 w (by omega)
          rw [this]
          show zv w y r m7 5 10 = _
          rw [z7]
          show zcar2 _ 5 10 = _
          rw [zcar2_o (by decide)]
          rfl
        rw [q11, zv_w10 hd, z10, z7, fy, fb_addI (by omega) (by omega), c10, e1]
        unfold zcarry
        rw [show ((p.toInt.toNat : Nat) : Int) = p.toInt by omega]
        rfl
      · rw [q11]
        exact zfr_u (zfr_trans f7 (zfr_mono f10 (fun a ha => Or.inr ha))) (Or.inl rfl)
    exact ⟨fun g => t91 0 (by rw [if_neg g]; rfl), fun g => t91 1 (by rw [if_pos g]; rfl)⟩
  have d9 : (m5.1 w 6).toInt = zcar1 (zv w y r m) p.toInt.toNat 5 9 := by
    rw [← z5]
    rfl
  have d9' : zcar1 (zv w y r m) p.toInt.toNat 5 9 = (m.1 w 6).toInt + 1 := rfl
  have d8 : (m5.1 w 4).toInt = zcar1 (zv w y r m) p.toInt.toNat 5 8 := by
    rw [← z5]
    rfl
  have d8' : zcar1 (zv w y r m) p.toInt.toNat 5 8 = (m.1 w 4).toInt := rfl
  have d0 : (m5.1 w 3).toInt = zcar1 (zv w y r m) p.toInt.toNat 5 0 := by
    rw [← z5]
    rfl
  have rm := zf_remG (x := m5.1 w 6) (y := 2) (by omega) (by decide)
  rw [e2] at rm
  refine ⟨fun g => t68 m5 ?_ f5, fun g => ⟨fun g2 => t68 m5 ?_ f5, fun g2 m13 q13 => t68 m13 ?_ ?_⟩⟩
  · rw [z5]
    unfold zcar2
    rw [if_neg (fun z => g (by rw [rm, d9]; exact z.1))]
  · rw [z5]
    unfold zcar2
    rw [if_neg (fun z => by have := z.2; omega)]
  · rw [q13, zv_w4 hd, z5]
    unfold zcar2
    rw [if_pos ⟨by rw [← d9, ← rm]; exact g, by omega⟩, fb_addI (by omega) (by omega), d8, e1]
  · rw [q13]
    exact zfr_u f5 (Or.inl rfl)
theorem zB2_u5 {f : zS} {k : Nat} {x : Int} (h : zB2 f) : zB2 (zU f 5 k x) := by
  intro j hj
  have := h j hj
  rw [zU_o (by omega), zU_o (by omega)]
  exact this
/-- an act that may be, come to pass on a walk of the class -/
theorem zs_56 (hd : zD w y r) (hB : zB (zv w y r m)) {a : Int32} (ha : zmay (zv w y r m) a.toInt) {Q : zf_Me → Prop} (hq : ∀ m', zv w y r m' = zact (zv w y r m) a.toInt → zfw w r m m' → Q m') : wp_56 w y r a m Q := by
  have e1 : (1 : Int32).toInt = 1 := rfl
  have e2 : (2 : Int32).toInt = 2 := rfl
  have b := zB_v hB
  refine ⟨fun g => ?_, fun g => ?_, fun g m5 q5 m7 q7 => ?_, fun g m11 q11 m13 q13 => ?_, fun g => ?_⟩
  · rcases ha with z | z | z | z | z
    · omega
    · omega
    · omega
    · omega
    · refine zs_58 hd hB z.2.2.2.2 (fun m' z' f' => hq m' ?_ f')
      rw [z']
      unfold zact
      rw [if_neg (by omega), if_neg (by omega), if_neg (by omega), if_neg (by omega)]
  · rcases ha with z | z | z | z | z
    · have hw : (m.1 w 10).toInt < (m.1 y 4).toInt := z.2.1.1
      have hl : 1 ≤ (m.1 w 4).toInt := z.2.2
      refine zs_57 hd hB.2.1 hB.2.2 (by omega) (fun m' z' f' => hq m' ?_ f')
      rw [z']
      unfold zact
      rw [if_pos g]
    · omega
    · omega
    · omega
    · omega
  · rcases ha with z | z | z | z | z
    · omega
    · have hw : (m.1 w 10).toInt < (m.1 y 4).toInt := z.2.1.1
      have z5 : zv w y r m5 = zU (zv w y r m) 5 3 ((m.1 w 7).toInt - 1) := by
        rw [q5, zv_w7 hd, fb_subI (by omega) (by omega), e1]
      have c3 : (m5.1 w 3).toInt = (m.1 w 3).toInt := by
        show zv w y r m5 5 0 = _
        rw [z5]
        rfl
      have c4 : (m5.1 w 4).toInt = (m.1 w 4).toInt := by
        show zv w y r m5 5 8 = _
        rw [z5]
        rfl
      have s1 := fb_addI (x := m5.1 w 3) (y := 2) (by omega) (by omega)
      have s2 := fb_addI (x := m5.1 w 4) (y := 2) (by omega) (by omega)
      have z7 : zv w y r m7 = zU (zU (zv w y r m) 5 3 ((m.1 w 7).toInt - 1)) 5 8 (if (m.1 w 3).toInt + 2 < (m.1 w 4).toInt + 2 then (m.1 w 3).toInt + 2 else (m.1 w 4).toInt + 2) := by
        rw [q7, zv_w4 hd, z5, zi_min, s1, s2, c3, c4, e2]
      have f7 : zfw w r m m7 := by
        rw [q7, q5]
        exact zfr_u (zfr_u zfr_refl (Or.inl rfl)) (Or.inl rfl)
      have fy : m7.1 y = m.1 y := f7.1 y (by omega)
      have k10 : (m7.1 w 10).toInt = (m.1 w 10).toInt := by
        show zv w y r m7 5 10 = _
        rw [z7]
        rfl
      have k11 : (m7.1 w 11).toInt = (m.1 w 11).toInt := by
        show zv w y r m7 5 11 = _
        rw [z7]
        rfl
      have k8 : (m7.1 w 4).toInt = (if (m.1 w 3).toInt + 2 < (m.1 w 4).toInt + 2 then (m.1 w 3).toInt + 2 else (m.1 w 4).toInt + 2) := by
        show zv w y r m7 5 8 = _
        rw [z7]
        rfl
      have k8b : 0 ≤ (m7.1 w 4).toInt ∧ (m7.1 w 4).toInt ≤ 20 := by rw [k8]; split <;> omega
      refine zs_57 hd (by rw [z7]; exact zB2_u5 (zB2_u5 hB.2.1)) (by rw [z7]; exact zB3_u5 (zB3_u5 hB.2.2)) (by rw [fy]; omega) (fun m' z' f' => hq m' ?_ (zfr_trans f7 f'))
      rw [z', z7]
      unfold zact
      rw [if_neg (c := a.toInt = 6) (by omega), if_pos (c := a.toInt = 7) g]
      rfl
    · omega
    · omega
    · omega
  · rcases ha with z | z | z | z | z
    · omega
    · omega
    · have hw : (m.1 w 10).toInt < (m.1 y 4).toInt := z.2.1.1
      have z5 : zv w y r m11 = zU (zv w y r m) 5 4 ((m.1 w 8).toInt - 1) := by
        rw [q11, zv_w8 hd, fb_subI (by omega) (by omega), e1]
      have c3 : (m11.1 w 3).toInt = (m.1 w 3).toInt := by
        show zv w y r m11 5 0 = _
        rw [z5]
        rfl
      have c4 : (m11.1 w 4).toInt = (m.1 w 4).toInt := by
        show zv w y r m11 5 8 = _
        rw [z5]
        rfl
      have s1 := fb_addI (x := m11.1 w 3) (y := 2) (by omega) (by omega)
      have s2 := fb_addI (x := m11.1 w 4) (y := 1) (by omega) (by omega)
      have z7 : zv w y r m13 = zU (zU (zv w y r m) 5 4 ((m.1 w 8).toInt - 1)) 5 8 (if (m.1 w 3).toInt + 2 < (m.1 w 4).toInt + 1 then (m.1 w 3).toInt + 2 else (m.1 w 4).toInt + 1) := by
        rw [q13, zv_w4 hd, z5, zi_min, s1, s2, c3, c4, e2, e1]
      have f7 : zfw w r m m13 := by
        rw [q13, q11]
        exact zfr_u (zfr_u zfr_refl (Or.inl rfl)) (Or.inl rfl)
      have fy : m13.1 y = m.1 y := f7.1 y (by omega)
      have k10 : (m13.1 w 10).toInt = (m.1 w 10).toInt := by
        show zv w y r m13 5 10 = _
        rw [z7]
        rfl
      have k11 : (m13.1 w 11).toInt = (m.1 w 11).toInt := by
        show zv w y r m13 5 11 = _
        rw [z7]
        rfl
      have k8 : (m13.1 w 4).toInt = (if (m.1 w 3).toInt + 2 < (m.1 w 4).toInt + 1 then (m.1 w 3).toInt + 2 else (m.1 w 4).toInt + 1) := by
        show zv w y r m13 5 8 = _
        rw [z7]
        rfl
      have k8b : 0 ≤ (m13.1 w 4).toInt ∧ (m13.1 w 4).toInt ≤ 20 := by rw [k8]; split <;> omega
      refine zs_57 hd (by rw [z7]; exact zB2_u5 (zB2_u5 hB.2.1)) (by rw [z7]; exact zB3_u5 (zB3_u5 hB.2.2)) (by rw [fy]; omega) (fun m' z' f' => hq m' ?_ (zfr_trans f7 f'))
      rw [z', z7]
      unfold zact
      rw [if_neg (c := a.toInt = 6) (by omega), if_neg (c := a.toInt = 7) (by omega), if_pos (c := a.toInt = 8) g]
      rfl
    · omega
    · omega
  · rcases ha with z | z | z | z | z
    · omega
    · omega
    · omega
    · have hr : (m.1 w 11).toInt ≤ 900 := z.2.1
      refine zs_60 hd hB.2.2 (by omega) (fun m' z' f' => hq m' ?_ f')
      rw [z']
      unfold zact
      rw [if_neg (by omega), if_neg (by omega), if_neg (by omega), if_pos g]
    · omega
end
end
