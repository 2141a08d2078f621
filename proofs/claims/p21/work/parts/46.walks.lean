/-! part 46: walks as functions: what they are (zv: of the class, zr: of the reference), their bounds, what may be -/
abbrev zS : Type := Nat → Nat → Int
def zN (n : Nat) (a : Nat → Int32) (k : Nat) : Int := if k < n then (a k).toInt else 0
def zU (f : zS) (c k : Nat) (x : Int) : zS := fun a b => if a = c ∧ b = k then x else f a b
def zv (w y r : Nat) (m : zf_Me) : zS := fun c k => match c with
  | 0 => zN 24 (m.1 (y + 1)) k
  | 1 => zN 24 (m.1 (y + 2)) k
  | 2 => zN 6 (m.1 (y + 3)) k
  | 3 => zN 6 (m.1 (y + 4)) k
  | 4 => zN 6 (m.1 r) k
  | 5 => (match k with
    | 0 => (m.1 w 3).toInt
    | 1 => (m.1 w 5).toInt
    | 2 => (m.1 w 9).toInt
    | 3 => (m.1 w 7).toInt
    | 4 => (m.1 w 8).toInt
    | 5 => (m.1 y 4).toInt
    | 6 => (m.1 y 5).toInt
    | 7 => (m.1 w 2).toInt
    | 8 => (m.1 w 4).toInt
    | 9 => (m.1 w 6).toInt
    | 10 => (m.1 w 10).toInt
    | 11 => (m.1 w 11).toInt
    | 12 => (m.1 w 12).toInt
    | _ => 0)
  | _ => 0
def zr (m : zf_Me) : zS := fun c k => match c with
  | 0 => zN 24 (m.1 65) k
  | 1 => zN 24 (m.1 66) k
  | 2 => zN 6 (m.1 67) k
  | 3 => zN 6 (m.1 68) k
  | 4 => zN 6 (m.1 69) k
  | 5 => (match k with
    | 0 => (m.1 63 4).toInt
    | 1 => (m.1 63 5).toInt
    | 2 => (m.1 63 9).toInt
    | 3 => (m.1 63 7).toInt
    | 4 => (m.1 63 8).toInt
    | 5 => (m.1 63 0).toInt
    | 6 => (m.1 63 1).toInt
    | 7 => (m.1 63 2).toInt
    | 8 => (m.1 63 3).toInt
    | 9 => (m.1 63 6).toInt
    | 10 => (m.1 63 10).toInt
    | 11 => (m.1 63 11).toInt
    | 12 => (m.1 63 12).toInt
    | _ => 0)
  | _ => 0
/-- bounds of the single numbers: most nap worn biscuits races furlongs people bag legs on here minutes seed -/
abbrev zB1 (mo na wo bi ra fu pe bg le on he mi se : Int) : Prop := (1 ≤ mo ∧ mo ≤ 9 ∧ 1 ≤ na ∧ na ≤ 9 ∧ 1 ≤ wo ∧ wo ≤ 99 ∧ 0 ≤ bi ∧ bi ≤ 9 ∧ 0 ≤ ra ∧ ra ≤ 9) ∧ (0 ≤ fu ∧ fu ≤ 24 ∧ 0 ≤ pe ∧ pe ≤ 6 ∧ -1 ≤ bg ∧ bg ≤ 5 ∧ 0 ≤ le ∧ le ≤ 11) ∧ 0 ≤ on ∧ on ≤ he ∧ 0 ≤ he ∧ he ≤ fu ∧ 0 ≤ mi ∧ mi ≤ 910 + 12 * he ∧ -2147483648 ≤ se ∧ se < 2147483648
abbrev zB2 (f : zS) : Prop := ∀ k, k < 24 → -3 ≤ f 0 k ∧ f 0 k ≤ 3 ∧ 0 ≤ f 1 k ∧ f 1 k ≤ 1
abbrev zB3 (f : zS) : Prop := ∀ k, k < 6 → 0 ≤ f 2 k ∧ f 2 k ≤ 6 ∧ 0 ≤ f 3 k ∧ f 3 k ≤ 9 ∧ 0 ≤ f 4 k ∧ f 4 k ≤ 99
def zB (f : zS) : Prop := zB1 (f 5 0) (f 5 1) (f 5 2) (f 5 3) (f 5 4) (f 5 5) (f 5 6) (f 5 7) (f 5 8) (f 5 9) (f 5 10) (f 5 11) (f 5 12) ∧ zB2 f ∧ zB3 f
abbrev zbv (w y : Nat) (m : zf_Me) : Prop := zB1 (m.1 w 3).toInt (m.1 w 5).toInt (m.1 w 9).toInt (m.1 w 7).toInt (m.1 w 8).toInt (m.1 y 4).toInt (m.1 y 5).toInt (m.1 w 2).toInt (m.1 w 4).toInt (m.1 w 6).toInt (m.1 w 10).toInt (m.1 w 11).toInt (m.1 w 12).toInt
abbrev zbr (m : zf_Me) : Prop := zB1 (m.1 63 4).toInt (m.1 63 5).toInt (m.1 63 9).toInt (m.1 63 7).toInt (m.1 63 8).toInt (m.1 63 0).toInt (m.1 63 1).toInt (m.1 63 2).toInt (m.1 63 3).toInt (m.1 63 6).toInt (m.1 63 10).toInt (m.1 63 11).toInt (m.1 63 12).toInt
section
variable {w y r : Nat} {m : zf_Me}
theorem zB_v (h : zB (zv w y r m)) : zbv w y m := h.1
theorem zB_r (h : zB (zr m)) : zbr m := h.1
theorem zN_lt {n k : Nat} {a : Nat → Int32} (h : k < n) : zN n a k = (a k).toInt := if_pos h
theorem zB_v2 (h : zB (zv w y r m)) {k : Nat} (hk : k < 24) : -3 ≤ (m.1 (y + 1) k).toInt ∧ (m.1 (y + 1) k).toInt ≤ 3 ∧ 0 ≤ (m.1 (y + 2) k).toInt ∧ (m.1 (y + 2) k).toInt ≤ 1 := by
  have e := h.2.1 k hk
  have a0 : zv w y r m 0 k = (m.1 (y + 1) k).toInt := zN_lt hk
  have a1 : zv w y r m 1 k = (m.1 (y + 2) k).toInt := zN_lt hk
  rw [a0, a1] at e
  exact e
theorem zB_v3 (h : zB (zv w y r m)) {k : Nat} (hk : k < 6) : 0 ≤ (m.1 (y + 3) k).toInt ∧ (m.1 (y + 3) k).toInt ≤ 6 ∧ 0 ≤ (m.1 (y + 4) k).toInt ∧ (m.1 (y + 4) k).toInt ≤ 9 ∧ 0 ≤ (m.1 r k).toInt ∧ (m.1 r k).toInt ≤ 99 := by
  have e := h.2.2 k hk
  have a2 : zv w y r m 2 k = (m.1 (y + 3) k).toInt := zN_lt hk
  have a3 : zv w y r m 3 k = (m.1 (y + 4) k).toInt := zN_lt hk
  have a4 : zv w y r m 4 k = (m.1 r k).toInt := zN_lt hk
  rw [a2, a3, a4] at e
  exact e
theorem zB_r2 (h : zB (zr m)) {k : Nat} (hk : k < 24) : -3 ≤ (m.1 65 k).toInt ∧ (m.1 65 k).toInt ≤ 3 ∧ 0 ≤ (m.1 66 k).toInt ∧ (m.1 66 k).toInt ≤ 1 := by
  have e := h.2.1 k hk
  have a0 : zr m 0 k = (m.1 65 k).toInt := zN_lt hk
  have a1 : zr m 1 k = (m.1 66 k).toInt := zN_lt hk
  rw [a0, a1] at e
  exact e
theorem zB_r3 (h : zB (zr m)) {k : Nat} (hk : k < 6) : 0 ≤ (m.1 67 k).toInt ∧ (m.1 67 k).toInt ≤ 6 ∧ 0 ≤ (m.1 68 k).toInt ∧ (m.1 68 k).toInt ≤ 9 ∧ 0 ≤ (m.1 69 k).toInt ∧ (m.1 69 k).toInt ≤ 99 := by
  have e := h.2.2 k hk
  have a2 : zr m 2 k = (m.1 67 k).toInt := zN_lt hk
  have a3 : zr m 3 k = (m.1 68 k).toInt := zN_lt hk
  have a4 : zr m 4 k = (m.1 69 k).toInt := zN_lt hk
  rw [a2, a3, a4] at e
  exact e
end
theorem zb_t {p : Prop} (h : p) : (true = true ↔ p) := iff_of_true rfl h
theorem zb_f {p : Prop} (h : ¬ p) : (false = true ↔ p) := iff_of_false (by decide) h
def zmore (k : Int) : Int := if k = 1 then -1 else if k = 2 then 1 else if k = 3 then -2 else if k = 4 then 2 else if k = 6 then 2 else 0
theorem zk_more : ∀ k : Nat, k < 7 → ((zx_sa.getD 1 []).getD k 0).toInt = zmore k := by decide
theorem zmore_b (k : Int) : -2 ≤ zmore k ∧ zmore k ≤ 2 := by
  unfold zmore
  repeat' split
  all_goals omega
abbrev zld (k t v : Int) (b : Prop) [Decidable b] : Int := 4 + v + zmore k + (if k = 6 then t / 10 else 0) + (if b then 2 else 0)
def zload (f : zS) (p : Nat) (v : Int) : Int := if zld (f 2 p) (f 4 p) v (f 5 7 = p) < 1 then 1 else zld (f 2 p) (f 4 p) v (f 5 7 = p)
def zslope (f : zS) : Int := f 0 (f 5 10).toNat
abbrev zcarryOk (f : zS) (p : Int) : Prop := (0 ≤ p ∧ p < f 5 6) ∧ f 5 10 < f 5 5 ∧ ¬ ((f 2 p.toNat = 2 ∨ f 2 p.toNat = 5) ∧ f 5 9 < f 5 1) ∧ ¬ (f 2 p.toNat = 6 ∧ 1 < zslope f) ∧ f 4 p.toNat + zload f p.toNat (zslope f) ≤ f 5 2
abbrev zwalkOk (f : zS) : Prop := f 5 10 < f 5 5 ∧ f 5 9 < f 5 1
abbrev zrestOk (f : zS) : Prop := f 5 11 ≤ 900 ∧ (f 5 10 = 0 ∨ f 1 (f 5 10 - 1).toNat = 1)
abbrev zmay (f : zS) (a : Int) : Prop := (a = 6 ∧ zwalkOk f ∧ 1 ≤ f 5 8) ∨ (a = 7 ∧ zwalkOk f ∧ 1 ≤ f 5 3) ∨ (a = 8 ∧ zwalkOk f ∧ 1 ≤ f 5 4) ∨ (a = 9 ∧ zrestOk f) ∨ (¬ a = 6 ∧ ¬ a = 7 ∧ ¬ a = 8 ∧ ¬ a = 9 ∧ zcarryOk f a)
theorem zf_divI {x : Int32} (h : 0 ≤ x.toInt) : (x / 10).toInt = x.toInt / 10 := by
  have e : (10 : Int32).toInt = 10 := rfl
  rw [Int32.toInt_div, e, Int.tdiv_eq_ediv_of_nonneg h]
  have := fb_rng x
  exact fb_bmod (by omega) (by omega)
section
variable {w y r : Nat} {m : zf_Me}
theorem zs_47 {Q : Bool → zf_Me → Prop} (hq : ∀ b, (b = true ↔ ¬ (m.1 w 10).toInt < (m.1 y 4).toInt) → Q b m) : wp_47 w y r m Q :=
  ⟨fun g => hq false (zb_f (by omega)), fun g => hq true (zb_t (by omega))⟩
theorem zs_48 {Q : Bool → zf_Me → Prop} (hq : ∀ b, (b = true ↔ ¬ (m.1 w 6).toInt < (m.1 w 5).toInt) → Q b m) : wp_48 w y r m Q :=
  ⟨fun g => hq false (zb_f (by omega)), fun g => hq true (zb_t (by omega))⟩
theorem zs_54 {Q : Bool → zf_Me → Prop} (hq : ∀ b, (b = true ↔ zwalkOk (zv w y r m)) → Q b m) : wp_54 w y r m Q := by
  refine zs_47 (fun b hb => ⟨fun e => ?_, fun e => zs_48 (fun b2 h2 => ⟨fun e2 => ?_, fun e2 => ?_⟩)⟩)
  · refine hq false (zb_f (fun z => ?_))
    exact (hb.mp e) z.1
  · refine hq false (zb_f (fun z => ?_))
    exact (h2.mp e2) z.2
  · refine hq true (zb_t ⟨?_, ?_⟩)
    · exact Decidable.byContradiction (fun z => by rw [hb.mpr z] at e; cases e)
    · exact Decidable.byContradiction (fun z => by rw [h2.mpr z] at e2; cases e2)
theorem zs_55 (hB : zB (zv w y r m)) {Q : Bool → zf_Me → Prop} (hq : ∀ b, (b = true ↔ zrestOk (zv w y r m)) → Q b m) : wp_55 w y r m Q := by
  have b := zB_v hB
  have e1 : (1 : Int32).toInt = 1 := rfl
  have es := fb_subI (x := m.1 w 10) (y := 1) (by omega) (by omega)
  rw [e1] at es
  have hn : ∀ z : zrestOk (zv w y r m), (m.1 w 11).toInt ≤ 900 ∧ ((m.1 w 10).toInt = 0 ∨ zv w y r m 1 ((m.1 w 10).toInt - 1).toNat = 1) := fun z => z
  have hi : ∀ z : ¬ (m.1 w 10).toInt = 0, zv w y r m 1 ((m.1 w 10).toInt - 1).toNat = (m.1 (y + 2) (Int32.toInt ((m.1 w 10) - 1)).toNat).toInt := fun z => by
    rw [es]
    exact zN_lt (by omega)
  refine ⟨fun g => hq false (zb_f (fun z => ?_)), fun g => ⟨fun g2 => hq true (zb_t ⟨g, Or.inl g2⟩), fun g2 => ⟨⟨by omega, by omega⟩, fun g3 => hq false (zb_f (fun z => ?_)), fun g3 => hq true (zb_t ⟨g, Or.inr ?_⟩)⟩⟩⟩
  · have := (hn z).1
    omega
  · have := (hn z).2
    rw [hi g2] at this
    omega
  · exact (hi g2).trans g3
theorem zs_65 {v : Int32} {Q : Bool → zf_Me → Prop} (hq : ∀ b, (b = true ↔ 0 ≤ v.toInt ∧ v.toInt < (m.1 y 5).toInt) → Q b m) : wp_65 y v m Q :=
  ⟨fun g => hq false (zb_f (by omega)), fun g => ⟨fun g2 => hq false (zb_f (by omega)), fun g2 => hq true (zb_t (by omega))⟩⟩
theorem zs_51 (hB : zB (zv w y r m)) {p v : Int32} (hp : 0 ≤ p.toInt ∧ p.toInt < 6) (hv : -3 ≤ v.toInt ∧ v.toInt ≤ 3) {Q : Int32 → zf_Me → Prop} (hq : ∀ x : Int32, x.toInt = zload (zv w y r m) p.toInt.toNat v.toInt → Q x m) : wp_51 w y r p v m Q := by
  have b3 := zB_v3 hB (k := p.toInt.toNat) (by omega)
  have e4 : (4 : Int32).toInt = 4 := rfl
  have e2 : (2 : Int32).toInt = 2 := rfl
  have a2 : zv w y r m 2 p.toInt.toNat = (m.1 (y + 3) p.toInt.toNat).toInt := zN_lt (by omega)
  have a4 : zv w y r m 4 p.toInt.toNat = (m.1 r p.toInt.toNat).toInt := zN_lt (by omega)
  have a7 : zv w y r m 5 7 = (m.1 w 2).toInt := rfl
  have hm := zk_more (m.1 (y + 3) p.toInt.toNat).toInt.toNat (by omega)
  rw [show (((m.1 (y + 3) p.toInt.toNat).toInt.toNat : Nat) : Int) = (m.1 (y + 3) p.toInt.toNat).toInt by omega] at hm
  have hb := zmore_b (m.1 (y + 3) p.toInt.toNat).toInt
  have s1 := fb_addI (x := 4) (y := v) (by omega) (by omega)
  have s2 := fb_addI (x := 4 + v) (y := (zx_sa.getD 1 []).getD (m.1 (y + 3) p.toInt.toNat).toInt.toNat 0) (by omega) (by omega)
  have tl : ∀ x : Int32, x.toInt = 4 + v.toInt + zmore (m.1 (y + 3) p.toInt.toNat).toInt + (if (m.1 (y + 3) p.toInt.toNat).toInt = 6 then (m.1 r p.toInt.toNat).toInt / 10 else 0) → wq_51_41 w y r p v x m Q := by
    intro x hx
    have hd : 0 ≤ (if (m.1 (y + 3) p.toInt.toNat).toInt = 6 then (m.1 r p.toInt.toNat).toInt / 10 else 0) ∧ (if (m.1 (y + 3) p.toInt.toNat).toInt = 6 then (m.1 r p.toInt.toNat).toInt / 10 else 0) ≤ 10 := by split <;> omega
    have s4 := fb_addI (x := x) (y := 2) (by omega) (by omega)
    have fin : ∀ z : Int32, z.toInt = zld (m.1 (y + 3) p.toInt.toNat).toInt (m.1 r p.toInt.toNat).toInt v.toInt ((m.1 w 2).toInt = (p.toInt.toNat : Int)) → wq_51_52 w y r p v z m Q := by
      intro z hz
      refine ⟨fun g => hq z ?_, fun g => hq 1 ?_⟩
      · unfold zload
        rw [a2, a4, a7, ← hz, if_neg (by omega)]
      · unfold zload
        rw [a2, a4, a7, ← hz, if_pos (by omega)]
        rfl
    refine ⟨fun g => fin x ?_, fun g => fin _ ?_⟩
    · rw [hx]
      unfold zld
      rw [if_neg (c := (m.1 w 2).toInt = _) (by omega)]
      omega
    · rw [s4, hx]
      unfold zld
      rw [if_pos (c := (m.1 w 2).toInt = _) (by omega)]
      omega
  refine ⟨⟨by omega, by omega⟩, ⟨by omega, by omega⟩, fun g => tl _ ?_, fun g => ⟨⟨by omega, by omega⟩, tl _ ?_⟩⟩
  · rw [s2, s1, e4, hm, if_neg g]
    omega
  · have hd := zf_divI (x := m.1 r p.toInt.toNat) (by omega)
    rw [fb_addI (by omega) (by omega), s2, s1, e4, hm, if_pos g, hd]
end
