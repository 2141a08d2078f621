/-! part 8c: moves of people, the trace, the fault: laid by wip/flat/w8c.py -/
def zN104 (f : zS) (p w x : Int32) : Int32 × List Nat := if ¬ (0 ≤ p.toInt ∧ p.toInt < f 5 6) ∨ ¬ (0 ≤ w.toInt ∧ w.toInt < 3) then (0, []) else zmv (f 2 p.toInt.toNat).toNat w.toInt.toNat p (Int32.ofInt (f 3 p.toInt.toNat)) x
/-- the trace of the class, of the reference -/
def zTC (m : zf_Me) (l : List Nat) : Prop := (m.1 44 1).toInt = l.length ∧ ∀ i, i < 20 → i < l.length → m.1 45 i = Int32.ofNat (l.getD i 0)
def zTR (m : zf_Me) (l : List Nat) : Prop := (m.1 63 51).toInt = l.length ∧ ∀ i, i < 20 → i < l.length → m.1 85 i = Int32.ofNat (l.getD i 0)
def zN105 (l : List Nat) (i : Int) : Int := if 0 ≤ i ∧ i < 20 ∧ i < l.length then (Int32.ofNat (l.getD i.toNat 0)).toInt else -1
def zru (m : zf_Me) (b : Nat) : zf_Me := if (m.1 63 51).toInt < 20 then zf_u (zf_u m 85 (m.1 63 51).toInt.toNat (Int32.ofNat b)) 63 51 (m.1 63 51 + 1) else zf_u m 63 51 (m.1 63 51 + 1)
def zrus (m : zf_Me) (l : List Nat) : zf_Me := l.foldl zru m
theorem zrus_nil {m : zf_Me} : zrus m [] = m := rfl
theorem zrus_cons {m : zf_Me} {b : Nat} {l : List Nat} : zrus m (b :: l) = zrus (zru m b) l := rfl
theorem zru_a {m : zf_Me} {b a : Nat} (h : ¬ a = 63 ∧ ¬ a = 85) : (zru m b).1 a = m.1 a := by
  unfold zru
  split
  · rw [zf_u1 h.1, zf_u1 h.2]
  · rw [zf_u1 h.1]
theorem zru_r {m : zf_Me} {b : Nat} : (zru m b).1 63 51 = m.1 63 51 + 1 := by
  unfold zru
  split
  · rw [zf_u3]
  · rw [zf_u3]
theorem zru_f {m : zf_Me} {b : Nat} : zgE m (zru m b) := by
  unfold zru
  split
  · exact zgE_u (zgE_u zgr_refl (by omega)) (by omega)
  · exact zgE_u zgr_refl (by omega)
theorem zrus_f : ∀ (l : List Nat) {m : zf_Me}, zgE m (zrus m l)
  | [], _ => zgr_refl
  | b :: l, m => zgE_t zru_f (zrus_f l)
theorem zpus_c : ∀ (l : List Nat) {m : zf_Me} {r : Nat}, (m.1 44 1).toInt = r → r + l.length ≤ 1000 → ∀ i, i < 20 → i < r + l.length → (zpus m l).1 45 i = if i < r then m.1 45 i else Int32.ofNat (l.getD (i - r) 0)
  | [], m, r, hr, hl, i, i1, i2 => by
    rw [if_pos (show i < r by exact i2)]
    rfl
  | b :: l, m, r, hr, hl, i, i1, i2 => by
    have e1 : (1 : Int32).toInt = 1 := rfl
    have ll : (b :: l).length = l.length + 1 := rfl
    have s := fb_addI (x := m.1 44 1) (y := 1) (by omega) (by omega)
    have r1 : ((zpu m b).1 44 1).toInt = ((r + 1 : Nat) : Int) := by rw [zpu_r, s]; omega
    show (zpus (zpu m b) l).1 45 i = _
    rw [zpus_c l r1 (by omega) i i1 (by omega)]
    by_cases g : i < r
    · rw [if_pos (by omega), if_pos g]
      unfold zpu
      split
      · rw [zf_u1 (by decide), zf_u4 (by omega)]
      · rw [zf_u1 (by decide)]
    · rw [if_neg g]
      by_cases e : i = r
      · rw [if_pos (by omega)]
        unfold zpu
        rw [if_pos (by omega), zf_u1 (by decide), show (m.1 44 1).toInt.toNat = i by omega, zf_u3, show i - r = 0 by omega]
        rfl
      · rw [if_neg (by omega), show i - r = (i - (r + 1)) + 1 by omega]
        rfl
theorem zrus_c : ∀ (l : List Nat) {m : zf_Me} {r : Nat}, (m.1 63 51).toInt = r → r + l.length ≤ 1000 → ((zrus m l).1 63 51).toInt = ((r + l.length : Nat) : Int) ∧ ∀ i, i < 20 → i < r + l.length → (zrus m l).1 85 i = if i < r then m.1 85 i else Int32.ofNat (l.getD (i - r) 0)
  | [], m, r, hr, hl => ⟨hr, fun i i1 i2 => by
    rw [if_pos (show i < r by exact i2)]
    rfl⟩
  | b :: l, m, r, hr, hl => by
    have e1 : (1 : Int32).toInt = 1 := rfl
    have ll : (b :: l).length = l.length + 1 := rfl
    have s := fb_addI (x := m.1 63 51) (y := 1) (by omega) (by omega)
    have r1 : ((zru m b).1 63 51).toInt = ((r + 1 : Nat) : Int) := by rw [zru_r, s]; omega
    have k := zrus_c l r1 (by omega)
    refine ⟨?_, fun i i1 i2 => ?_⟩
    · show ((zrus (zru m b) l).1 63 51).toInt = _
      rw [k.1, ll]
      omega
    show (zrus (zru m b) l).1 85 i = _
    rw [k.2 i i1 (by omega)]
    by_cases g : i < r
    · rw [if_pos (by omega), if_pos g]
      unfold zru
      split
      · rw [zf_u1 (by decide), zf_u4 (by omega)]
      · rw [zf_u1 (by decide)]
    · rw [if_neg g]
      by_cases e : i = r
      · rw [if_pos (by omega)]
        unfold zru
        rw [if_pos (by omega), zf_u1 (by decide), show (m.1 63 51).toInt.toNat = i by omega, zf_u3, show i - r = 0 by omega]
        rfl
      · rw [if_neg (by omega), show i - r = (i - (r + 1)) + 1 by omega]
        rfl
section
variable {m : zf_Me}
theorem zA_104 (hJ : JX m) {p v x : Int32} {Q : Int32 → zf_Me → Prop} (K : ∀ m', zfr (fun a => a = 44 ∨ a = 45) m m' → zTC m' (zN104 (zv 2 3 8 m) p v x).2 → Q (zN104 (zv 2 3 8 m) p v x).1 m') : wp_104 p v x m Q := by
  have b := zB_v hJ.1
  have p6 : zv 2 3 8 m 5 6 = (m.1 3 5).toInt := rfl
  have no : ¬ (0 ≤ p.toInt ∧ p.toInt < zv 2 3 8 m 5 6) ∨ ¬ (0 ≤ v.toInt ∧ v.toInt < 3) → wp_1 m (fun m' => Q 0 m') := fun g m1 q1 => by
    have e : zN104 (zv 2 3 8 m) p v x = (0, []) := if_pos g
    rw [e] at K
    exact K m1 (by rw [q1]; exact zfr_u zfr_refl (by omega)) ⟨by rw [q1, zf_u3]; rfl, fun i _ z => absurd z (Nat.not_lt_zero i)⟩
  refine zs_65t (fun g => ⟨fun z => (nomatch z), fun _ => ⟨fun z => no (Or.inr (by omega)), fun g2 => ⟨fun g3 => ?_, fun z => no (Or.inr (by omega))⟩⟩⟩) (fun g => ⟨fun _ => no (Or.inl g), fun z => (nomatch z)⟩)
  have b3 := zB_v3 hJ.1 (k := p.toInt.toNat) (by omega)
  have a2 : zv 2 3 8 m 2 p.toInt.toNat = (m.1 6 p.toInt.toNat).toInt := zN_lt (by omega)
  have a3 : zv 2 3 8 m 3 p.toInt.toNat = (m.1 7 p.toInt.toNat).toInt := zN_lt (by omega)
  have e : zN104 (zv 2 3 8 m) p v x = zmv (m.1 6 p.toInt.toNat).toInt.toNat v.toInt.toNat p (m.1 7 p.toInt.toNat) x := by
    unfold zN104
    rw [if_neg (by omega), a2, a3, Int32.ofInt_toInt]
  rw [e] at K
  have k6 : 0 ≤ (m.1 6 p.toInt.toNat).toInt ∧ (m.1 6 p.toInt.toNat).toInt ≤ 6 := ⟨b3.1, b3.2.1⟩
  have ok := (zmv_eq (own := (m.1 6 p.toInt.toNat).toInt.toNat) (v := v.toInt.toNat) (by omega) (by omega) p (m.1 7 p.toInt.toNat) x).2
  have r0 : ((zmb m (m.1 6 p.toInt.toNat) p (m.1 7 p.toInt.toNat)).1 44 1).toInt = ((0 : Nat) : Int) := by
    unfold zmb
    rw [zf_u4 (by decide), zf_u4 (by decide), zf_u4 (by decide), zf_u3]
    rfl
  refine zs_2 (by omega) ⟨g2, g3⟩ ⟨b3.1, b3.2.1⟩ (K _ (zfr_trans ?_ (zfr_mono (zpus_f _) (fun a ha => by omega))) ⟨?_, fun i i1 i2 => ?_⟩)
  · unfold zmb
    exact zfr_u (zfr_u (zfr_u (zfr_u zfr_refl (by omega)) (by omega)) (by omega)) (by omega)
  · rw [zpus_r _ (by rw [r0]; decide) (by rw [r0]; omega), r0]
    omega
  · rw [zpus_c _ r0 (by omega) i i1 (by omega), if_neg (Nat.not_lt_zero i)]
    rfl
theorem zA_105 {l : List Nat} (h : zTC m l) {i : Int32} {Q : Int32 → zf_Me → Prop} (K : ∀ v : Int32, v.toInt = zN105 l i.toInt → Q v m) : wp_105 i m Q := by
  refine ⟨fun g => K _ ?_, fun g => ⟨fun g2 => K _ ?_, fun g2 => ⟨fun g3 => K _ ?_, fun g3 => ⟨by omega, K _ ?_⟩⟩⟩⟩
  · unfold zN105
    rw [if_neg (by omega)]
    rfl
  · unfold zN105
    rw [if_neg (by omega)]
    rfl
  · rw [h.1] at g3
    unfold zN105
    rw [if_neg (by omega)]
    rfl
  · rw [h.1] at g3
    unfold zN105
    rw [if_pos (by omega), h.2 _ (by omega) (by omega)]
theorem zG_207 {l : List Nat} (h : zTR m l) {i : Int32} {Q : Int32 → zf_Me → Prop} (K : ∀ v : Int32, v.toInt = zN105 l i.toInt → Q v m) : wp_207 i m Q := by
  refine ⟨fun g => K _ ?_, fun g => ⟨fun g2 => K _ ?_, fun g2 => ⟨fun g3 => K _ ?_, fun g3 => ⟨by omega, K _ ?_⟩⟩⟩⟩
  · unfold zN105
    rw [if_neg (by omega)]
    rfl
  · unfold zN105
    rw [if_neg (by omega)]
    rfl
  · rw [h.1] at g3
    unfold zN105
    rw [if_neg (by omega)]
    rfl
  · rw [h.1] at g3
    unfold zN105
    rw [if_pos (by omega), h.2 _ (by omega) (by omega)]
theorem zs_202x {v : Int32} {b : Nat} (hv : v = Int32.ofNat b) {k : Int} (hk : k ≤ 40) (h : zrn m k) {Q : zf_Me → Prop} (hq : zrn (zru m b) (k + 1) → Q (zru m b)) : wp_202 v m Q := by
  rw [hv]
  have e1 : (1 : Int32).toInt = 1 := rfl
  have s := fb_addI (x := m.1 63 51) (y := 1) (by omega) (by omega)
  have r : zrn (zru m b) (k + 1) := by
    unfold zrn
    rw [zru_r]
    omega
  have q := hq r
  unfold zru at q
  refine ⟨fun g m1 q1 => ?_, fun g => ⟨by omega, fun m3 q3 m1 q1 => ?_⟩⟩
  · rw [if_neg (by omega)] at q
    rw [q1]
    exact q
  · rw [if_pos g] at q
    rw [q1, q3, zf_u1 (by decide)]
    exact q
theorem zmv_0_0 (p tra x : Int32) : zmv 0 0 p tra x = ((x + p), [10]) := rfl
theorem zmv_0_1 (p tra x : Int32) : zmv 0 1 p tra x = (((x + p) * 2), [11, 10]) := rfl
theorem zmv_0_2 (p tra x : Int32) : zmv 0 2 p tra x = ((((x + p) * 2) ^^^ ((x - tra) + p)), [12, 11, 10, 10]) := rfl
theorem zmv_1_0 (p tra x : Int32) : zmv 1 0 p tra x = (((x + p) + tra), [20, 10]) := rfl
theorem zmv_1_1 (p tra x : Int32) : zmv 1 1 p tra x = ((((x + p) + tra) * 2), [11, 20, 10]) := rfl
theorem zmv_1_2 (p tra x : Int32) : zmv 1 2 p tra x = (((((x + p) + tra) * 2) ^^^ (((x - tra) + p) + tra)), [12, 11, 20, 10, 20, 10]) := rfl
theorem zmv_2_0 (p tra x : Int32) : zmv 2 0 p tra x = ((x + p), [10]) := rfl
theorem zmv_2_1 (p tra x : Int32) : zmv 2 1 p tra x = ((((x + p) * 2) * 3), [30, 11, 10]) := rfl
theorem zmv_2_2 (p tra x : Int32) : zmv 2 2 p tra x = (((((x + p) * 2) * 3) ^^^ ((x - tra) + p)), [12, 30, 11, 10, 10]) := rfl
theorem zmv_3_0 (p tra x : Int32) : zmv 3 0 p tra x = (((x + p) + tra), [20, 10]) := rfl
theorem zmv_3_1 (p tra x : Int32) : zmv 3 1 p tra x = (((((x + 1) + p) + tra) * 2), [40, 11, 20, 10]) := rfl
theorem zmv_3_2 (p tra x : Int32) : zmv 3 2 p tra x = ((((((x + 1) + p) + tra) * 2) ^^^ (((x - tra) + p) + tra)), [12, 40, 11, 20, 10, 20, 10]) := rfl
theorem zmv_4_0 (p tra x : Int32) : zmv 4 0 p tra x = (((x + p) - p), [51, 10]) := rfl
theorem zmv_4_1 (p tra x : Int32) : zmv 4 1 p tra x = ((((x + p) - p) * 2), [11, 51, 10]) := rfl
theorem zmv_4_2 (p tra x : Int32) : zmv 4 2 p tra x = ((-((((x + p) - p) * 2) ^^^ (((x - tra) + p) - p))), [50, 12, 11, 51, 10, 51, 10]) := rfl
theorem zmv_5_0 (p tra x : Int32) : zmv 5 0 p tra x = ((x + p), [10]) := rfl
theorem zmv_5_1 (p tra x : Int32) : zmv 5 1 p tra x = ((((x + p) * 2) * 3), [30, 11, 10]) := rfl
theorem zmv_5_2 (p tra x : Int32) : zmv 5 2 p tra x = ((((((x + p) * 2) * 3) ^^^ ((x - tra) + p)) ^^^ 5), [60, 12, 30, 11, 10, 10]) := rfl
theorem zmv_6_0 (p tra x : Int32) : zmv 6 0 p tra x = ((((x + p) - p) * 2), [70, 51, 10]) := rfl
theorem zmv_6_1 (p tra x : Int32) : zmv 6 1 p tra x = ((((((x - tra) + p) - p) * 2) * 2), [71, 11, 70, 51, 10]) := rfl
theorem zmv_6_2 (p tra x : Int32) : zmv 6 2 p tra x = ((-((((((x - tra) + p) - p) * 2) * 2) ^^^ ((((x - tra) + p) - p) * 2))), [50, 12, 71, 11, 70, 51, 10, 70, 51, 10]) := rfl
end
