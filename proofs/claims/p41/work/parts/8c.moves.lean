section
/-! part 8c: moves of people, the trace, the fault: laid by wip/flat/w8c.py -/
def zN104 (f : zS) (p w x : Int32) : Int32 × List Nat := if ¬ (0 ≤ p.toInt ∧ p.toInt < f 5 6) ∨ ¬ (0 ≤ w.toInt ∧ w.toInt < 3) then (0, []) else zmv (f 2 p.toInt.toNat).toNat w.toInt.toNat p (Int32.ofInt (f 3 p.toInt.toNat)) x
/-- the trace of the class, of the reference -/
def zTC (m : zf_Me) (l : List Nat) : Prop := (m.1 44 1).toInt = l.length ∧ ∀ i, i < 20 → i < l.length → m.1 45 i = Int32.ofNat (l.getD i 0)
def zTR (m : zf_Me) (l : List Nat) : Prop := (m.1 63 51).toInt = l.length ∧ ∀ i, i < 20 → i < l.length → m.1 85 i = Int32.ofNat (l.getD i 0)
def zN105 (l : List Nat) (i : Int) : Int := if 0 ≤ i ∧ i < 20 ∧ i < l.length then (Int32.ofNat (l.getD i.toNat 0)).toInt else -1
def zru (m : zf_Me) (b : Nat) : zf_Me := if (m.1 63 51).toInt < 20 then zf_u (zf_u m 85 (m.1 63 51).toInt.toNat (Int32.ofNat b)) 63 51 (m.1 63 51 + 1) else zf_u m 63 51 (m.1 63 51 + 1)
def zrus (m : zf_Me) (l : List Nat) : zf_Me := l.foldl zru m
theorem zrus_nil {m : zf_Me} : zrus m [] = m := rfl
theorem zrus_cons {m : zf_Me} {b : Nat} {l : List Nat} : zrus m (b :: l) = zrus (zru m b) l := rfl
theorem zru_a {m : zf_Me} {b a : Nat} (h : ¬ a = 63 ∧ ¬ a = 85) : (zru m b).1 a = m.1 a := by
  unfold zru
  split
  · rw [zf_u1 h.1, zf_u1 h.2]
  · rw [zf_u1 h.1]
theorem zru_r {m : zf_Me} {b : Nat} : (zru m b).1 63 51 = m.1 63 51 + 1 := by
  unfold zru
  split
  · rw [zf_u3]
  · rw [zf_u3]
theorem zru_f {m : zf_Me} {b : Nat} : zgE m (zru m b) := by
  unfold zru
  split
  · exact zgE_u (zgE_u zgr_refl (by omega)) (by omega)
  · exact zgE_u zgr_refl (by omega)
theorem zrus_f : ∀ (l : List Nat) {m : zf_Me}, zgE m (zrus m l)
  | [], _ => zgr_refl
  | b :: l, m => zgE_t zru_f (zrus_f l)
theorem zpus_c : ∀ (l : List Nat) {m : zf_Me} {r : Nat}, (m.1 44 1).toInt = r → r + l.length ≤ 1000 → ∀ i, i < 20 → i < r + l.length → (zpus m l).1 45 i = if i < r then m.1 45 i else Int32.ofNat (l.getD (i - r) 0)
  | [], m, r, hr, hl, i, i1, i2 => by
    rw [if_pos (show i < r by exact i2)]
    rfl
  | b :: l, m, r, hr, hl, i, i1, i2 => by
    have e1 : (1 : Int32).toInt = 1 := rfl
    have ll : (b :: l).length = l.length + 1 := rfl
    have s := fb_addI (x := m.1 44 1) (y := 1) (by omega) (by omega)
    have r1 : ((zpu m b).1 44 1).toInt = ((r + 1 : Nat) : Int) := by rw [zpu_r, s]; omega
    show (zpus (zpu m b) l).1 45 i = _
    rw [zpus_c l r1 (by omega) i i1 (by omega)]
    by_cases g : i < r
    · rw [if_pos (by omega), if_pos g]
      unfold zpu
      split
      · rw [zf_u1 (by decide), zf_u4 (by omega)]
      · rw [zf_u1 (by decide)]
    · rw [if_neg g]
      by_cases e : i = r
      · rw [if_pos (by omega)]
        unfold zpu
        rw [if_pos (by omega), zf_u1 (by decide), show (m.1 44 1).toInt.toNat = i by omega, zf_u3, show i - r = 0 by omega]
        rfl
      · rw [if_neg (by omega), show i - r = (i - (r + 1)) + 1 by omega]
        rfl
theorem zrus_c : ∀ (l : List Nat) {m : zf_Me} {r : Nat}, (m.1 63 51).toInt = r → r + l.length ≤ 1000 → ((zrus m l).1 63 51).toInt = ((r + l.length : Nat) : Int) ∧ ∀ i, i < 20 → i < r + l.length → (zrus m l).1 85 i = if i < r then m.1 85 i else Int32.ofNat (l.getD (i - r) 0)
  | [], m, r, hr, hl => ⟨hr, fun i i1 i2 => by
    rw [if_pos (show i < r by exact i2)]
    rfl⟩
  | b :: l, m, r, hr, hl => by
    have e1 : (1 : Int32).toInt = 1 := rfl
    have ll : (b :: l).length = l.length + 1 := rfl
    have s := fb_addI (x := m.1 63 51) (y := 1) (by omega) (by omega)
    have r1 : ((zru m b).1 63 51).toInt = ((r + 1 : Nat) : Int) := by rw [zru_r, s]; omega
    have k := zrus_c l r1 (by omega)
    refine ⟨?_, fun i i1 i2 => ?_⟩
    · show ((zrus (zru m b) l).1 63 51).toInt = _
      rw [k.1, ll]
      omega
    show (zrus (zru m b) l).1 85 i = _
    rw [k.2 i i1 (by omega)]
    by_cases g : i < r
    · rw [if_pos (by omega), if_pos g]
      unfold zru
      split
      · rw [zf_u1 (by decide), zf_u4 (by omega)]
      · rw [zf_u1 (by decide)]
    · rw [if_neg g]
      by_cases e : i = r
      · rw [if_pos (by omega)]
        unfold zru
        rw [if_pos (by omega), zf_u1 (by decide), show (m.1 63 51).toInt.toNat = i by omega, zf_u3, show i - r = 0 by omega]
        rfl
      · rw [if_neg (by omega), show i - r = (i - (r + 1)) + 1 by omega]
        rfl
section
variable {m : zf_Me}
theorem zA_104 (hJ : JX m) {p v x : Int32} {Q : Int32 → zf_Me → Prop} (K : ∀ m', zfr (fun a => a = 44 ∨ a = 45) m m' → zTC m' (zN104 (zv 2 3 8 m) p v x).2 → Q (zN104 (zv 2 3 8 m) p v x).1 m') : wp_104 p v x m Q := by
  have b := zB_v hJ.1
  have p6 : zv 2 3 8 m 5 6 = (m.1 3 5).toInt := rfl
  have no : ¬ (0 ≤ p.toInt ∧ p.toInt < zv 2 3 8 m 5 6) ∨ ¬ (0 ≤ v.toInt ∧ v.toInt < 3) → wp_1 m (fun m' => Q 0 m') := fun g m1 q1 => by
    have e : zN104 (zv 2 3 8 m) p v x = (0, []) := if_pos g
    rw [e] at K
    exact K m1 (by rw [q1]; exact zfr_u zfr_refl (by omega)) ⟨by rw [q1, zf_u3]; rfl, fun i _ z => absurd z (Nat.not_lt_zero i)⟩
  refine zs_65t (fun g => ⟨fun z => (nomatch z), fun _ => ⟨fun z => no (Or.inr (by omega)), fun g2 => ⟨fun g3 => ?_, fun z => no (Or.inr (by omega))⟩⟩⟩) (fun g => ⟨fun _ => no (Or.inl g), fun z => (nomatch z)⟩)
  have b3 := zB_v3 hJ.1 (k := p.toInt.toNat) (by omega)
  have a2 : zv 2 3 8 m 2 p.toInt.toNat = (m.1 6 p.toInt.toNat).toInt := zN_lt (by omega)
  have a3 : zv 2 3 8 m 3 p.toInt.toNat = (m.1 7 p.toInt.toNat).toInt := zN_lt (by omega)
  have e : zN104 (zv 2 3 8 m) p v x = zmv (m.1 6 p.toInt.toNat).toInt.toNat v.toInt.toNat p (m.1 7 p.toInt.toNat) x := by
    unfold zN104
    rw [if_neg (by omega), a2, a3, Int32.ofInt_toInt]
  rw [e] at K
  have k6 : 0 ≤ (m.1 6 p.toInt.toNat).toInt ∧ (m.1 6 p.toInt.toNat).toInt ≤ 6 := ⟨b3.1, b3.2.1⟩
  have ok := (zmv_eq (own := (m.1 6 p.toInt.toNat).toInt.toNat) (v := v.toInt.toNat) (by omega) (by omega) p (m.1 7 p.toInt.toNat) x).2
  have r0 : ((zmb m (m.1 6 p.toInt.toNat) p (m.1 7 p.toInt.toNat)).1 44 1).toInt = ((0 : Nat) : Int) := by
    unfold zmb
    rw [zf_u4 (by decide), zf_u4 (by decide), zf_u4 (by decide), zf_u3]
    rfl
  refine zs_2 (by omega) ⟨g2, g3⟩ ⟨b3.1, b3.2.1⟩ (K _ (zfr_trans ?_ (zfr_mono (zpus_f _) (fun a ha => by omega))) ⟨?_, fun i i1 i2 => ?_⟩)
  · unfold zmb
    exact zfr_u (zfr_u (zfr_u (zfr_u zfr_refl (by omega)) (by omega)) (by omega)) (by omega)
  · rw [zpus_r _ (by rw [r0]; decide) (by rw [r0]; omega), r0]
    omega
  · rw [zpus_c _ r0 (by omega) i i1 (by omega), if_neg (Nat.not_lt_zero i)]
    rfl
theorem zA_105 {l : List Nat} (h : zTC m l) {i : Int32} {Q : Int32 → zf_Me → Prop} (K : ∀ v : Int32, v.toInt = zN105 l i.toInt → Q v m) : wp_105 i m Q := by
  refine ⟨fun g => K _ ?_, fun g => ⟨fun g2 => K _ ?_, fun g2 => ⟨fun g3 => K _ ?_, fun g3 => ⟨by omega, K _ ?_⟩⟩⟩⟩
  · unfold zN105
    rw [if_neg (by omega)]
    rfl
  · unfold zN105
    rw [if_neg (by omega)]
    rfl
  · rw [h.1] at g3
    unfold zN105
    rw [if_neg (by omega)]
    rfl
  · rw [h.1] at g3
    unfold zN105
    rw [if_pos (by omega), h.2 _ (by omega) (by omega)]
theorem zG_207 {l : List Nat} (h : zTR m l) {i : Int32} {Q : Int32 → zf_Me → Prop} (K : ∀ v : Int32, v.toInt = zN105 l i.toInt → Q v m) : wp_207 i m Q := by
  refine ⟨fun g => K _ ?_, fun g => ⟨fun g2 => K _ ?_, fun g2 => ⟨fun g3 => K _ ?_, fun g3 => ⟨by omega, K _ ?_⟩⟩⟩⟩
  · unfold zN105
    rw [if_neg (by omega)]
    rfl
  · unfold zN105
    rw [if_neg (by omega)]
    rfl
  · rw [h.1] at g3
    unfold zN105
    rw [if_neg (by omega)]
    rfl
  · rw [h.1] at g3
    unfold zN105
    rw [if_pos (by omega), h.2 _ (by omega) (by omega)]
theorem zs_202x {v : Int32} {b : Nat} (hv : v = Int32.ofNat b) {k : Int} (hk : k ≤ 40) (h : zrn m k) {Q : zf_Me → Prop} (hq : zrn (zru m b) (k + 1) → Q (zru m b)) : wp_202 v m Q := by
  rw [hv]
  have e1 : (1 : Int32).toInt = 1 := rfl
  have s := fb_addI (x := m.1 63 51) (y := 1) (by omega) (by omega)
  have r : zrn (zru m b) (k + 1) := by
    unfold zrn
    rw [zru_r]
    omega
  have q := hq r
  unfold zru at q
  refine ⟨fun g m1 q1 => ?_, fun g => ⟨by omega, fun m3 q3 m1 q1 => ?_⟩⟩
  · rw [if_neg (by omega)] at q
    rw [q1]
    exact q
  · rw [if_pos g] at q
    rw [q1, q3, zf_u1 (by decide)]
    exact q
theorem zmv_0_0 (p tra x : Int32) : zmv 0 0 p tra x = ((x + p), [10]) := rfl
theorem zmv_0_1 (p tra x : Int32) : zmv 0 1 p tra x = (((x + p) * 2), [11, 10]) := rfl
theorem zmv_0_2 (p tra x : Int32) : zmv 0 2 p tra x = ((((x + p) * 2) ^^^ ((x - tra) + p)), [12, 11, 10, 10]) := rfl
theorem zmv_1_0 (p tra x : Int32) : zmv 1 0 p tra x = (((x + p) + tra), [20, 10]) := rfl
theorem zmv_1_1 (p tra x : Int32) : zmv 1 1 p tra x = ((((x + p) + tra) * 2), [11, 20, 10]) := rfl
theorem zmv_1_2 (p tra x : Int32) : zmv 1 2 p tra x = (((((x + p) + tra) * 2) ^^^ (((x - tra) + p) + tra)), [12, 11, 20, 10, 20, 10]) := rfl
theorem zmv_2_0 (p tra x : Int32) : zmv 2 0 p tra x = ((x + p), [10]) := rfl
theorem zmv_2_1 (p tra x : Int32) : zmv 2 1 p tra x = ((((x + p) * 2) * 3), [30, 11, 10]) := rfl
theorem zmv_2_2 (p tra x : Int32) : zmv 2 2 p tra x = (((((x + p) * 2) * 3) ^^^ ((x - tra) + p)), [12, 30, 11, 10, 10]) := rfl
theorem zmv_3_0 (p tra x : Int32) : zmv 3 0 p tra x = (((x + p) + tra), [20, 10]) := rfl
theorem zmv_3_1 (p tra x : Int32) : zmv 3 1 p tra x = (((((x + 1) + p) + tra) * 2), [40, 11, 20, 10]) := rfl
theorem zmv_3_2 (p tra x : Int32) : zmv 3 2 p tra x = ((((((x + 1) + p) + tra) * 2) ^^^ (((x - tra) + p) + tra)), [12, 40, 11, 20, 10, 20, 10]) := rfl
theorem zmv_4_0 (p tra x : Int32) : zmv 4 0 p tra x = (((x + p) - p), [51, 10]) := rfl
theorem zmv_4_1 (p tra x : Int32) : zmv 4 1 p tra x = ((((x + p) - p) * 2), [11, 51, 10]) := rfl
theorem zmv_4_2 (p tra x : Int32) : zmv 4 2 p tra x = ((-((((x + p) - p) * 2) ^^^ (((x - tra) + p) - p))), [50, 12, 11, 51, 10, 51, 10]) := rfl
theorem zmv_5_0 (p tra x : Int32) : zmv 5 0 p tra x = ((x + p), [10]) := rfl
theorem zmv_5_1 (p tra x : Int32) : zmv 5 1 p tra x = ((((x + p) * 2) * 3), [30, 11, 10]) := rfl
theorem zmv_5_2 (p tra x : Int32) : zmv 5 2 p tra x = ((((((x + p) * 2) * 3) ^^^ ((x - tra) + p)) ^^^ 5), [60, 12, 30, 11, 10, 10]) := rfl
theorem zmv_6_0 (p tra x : Int32) : zmv 6 0 p tra x = ((((x + p) - p) * 2), [70, 51, 10]) := rfl
theorem zmv_6_1 (p tra x : Int32) : zmv 6 1 p tra x = ((((((x - tra) + p) - p) * 2) * 2), [71, 11, 70, 51, 10]) := rfl
theorem zmv_6_2 (p tra x : Int32) : zmv 6 2 p tra x = ((-((((((x - tra) + p) - p) * 2) * 2) ^^^ ((((x - tra) + p) - p) * 2))), [50, 12, 71, 11, 70, 51, 10, 70, 51, 10]) := rfl
end
end
section
/-! part 8d: moves of the reference: laid by wip/flat/w8c.py -/
section
variable {m : zf_Me}
theorem zs_203_0 {p v tra : Int32} (hp : 0 ≤ p.toInt ∧ p.toInt < 6) (k67 : (m.1 67 p.toInt.toNat).toInt = 0) (t68 : m.1 68 p.toInt.toNat = tra) {r : Int} (hr : r ≤ 30) (h0 : zrn m r) {Q : Int32 → zf_Me → Prop} (hq : zrn (zru m 10) (r + 4) → Q (v + p) (zru m 10)) : wp_203 p v m Q :=
  ⟨hp, fun _ => ⟨fun z => absurd z (by omega), fun _ => ⟨fun _ => ⟨fun z => absurd z (by omega), fun _ => ⟨fun _ => zs_202x (b := 10) rfl (by omega) h0 (fun h1 => ⟨fun z => absurd z (by omega), fun _ => ⟨fun _ => ⟨fun z => absurd z (by omega), fun _ => ⟨fun _ => ⟨fun _ => hq (zrn_le h1 (by omega)), fun z => absurd z (by omega)⟩, fun z => absurd z (by omega)⟩⟩, fun z => absurd z (by omega)⟩⟩), fun z => absurd z (by omega)⟩⟩, fun z => absurd z (by omega)⟩⟩, fun z => absurd z (by omega)⟩
theorem zs_203_1 {p v tra : Int32} (hp : 0 ≤ p.toInt ∧ p.toInt < 6) (k67 : (m.1 67 p.toInt.toNat).toInt = 1) (t68 : m.1 68 p.toInt.toNat = tra) {r : Int} (hr : r ≤ 30) (h0 : zrn m r) {Q : Int32 → zf_Me → Prop} (hq : zrn (zru (zru m 20) 10) (r + 4) → Q ((v + p) + tra) (zru (zru m 20) 10)) : wp_203 p v m Q :=
  ⟨hp, fun _ => ⟨fun z => absurd z (by omega), fun _ => ⟨fun _ => ⟨fun _ => zs_202x (b := 20) rfl (by omega) h0 (fun h1 => zs_202x (b := 10) rfl (by omega) h1 (fun h2 => ⟨fun _ => ⟨hp, by rw [zru_a (by decide), zru_a (by decide), t68]; exact ⟨fun z => absurd z (by omega), fun _ => ⟨fun _ => ⟨fun _ => hq (zrn_le h2 (by omega)), fun z => absurd z (by omega)⟩, fun z => absurd z (by omega)⟩⟩⟩, fun z => absurd k67 z⟩)), fun z => absurd k67 z⟩, fun z => absurd z (by omega)⟩⟩, fun z => absurd z (by omega)⟩
theorem zs_203_2 {p v tra : Int32} (hp : 0 ≤ p.toInt ∧ p.toInt < 6) (k67 : (m.1 67 p.toInt.toNat).toInt = 2) (t68 : m.1 68 p.toInt.toNat = tra) {r : Int} (hr : r ≤ 30) (h0 : zrn m r) {Q : Int32 → zf_Me → Prop} (hq : zrn (zru m 10) (r + 4) → Q (v + p) (zru m 10)) : wp_203 p v m Q :=
  ⟨hp, fun _ => ⟨fun z => absurd z (by omega), fun _ => ⟨fun _ => ⟨fun z => absurd z (by omega), fun _ => ⟨fun _ => zs_202x (b := 10) rfl (by omega) h0 (fun h1 => ⟨fun z => absurd z (by omega), fun _ => ⟨fun _ => ⟨fun z => absurd z (by omega), fun _ => ⟨fun _ => ⟨fun _ => hq (zrn_le h1 (by omega)), fun z => absurd z (by omega)⟩, fun z => absurd z (by omega)⟩⟩, fun z => absurd z (by omega)⟩⟩), fun z => absurd z (by omega)⟩⟩, fun z => absurd z (by omega)⟩⟩, fun z => absurd z (by omega)⟩
theorem zs_203_3 {p v tra : Int32} (hp : 0 ≤ p.toInt ∧ p.toInt < 6) (k67 : (m.1 67 p.toInt.toNat).toInt = 3) (t68 : m.1 68 p.toInt.toNat = tra) {r : Int} (hr : r ≤ 30) (h0 : zrn m r) {Q : Int32 → zf_Me → Prop} (hq : zrn (zru (zru m 20) 10) (r + 4) → Q ((v + p) + tra) (zru (zru m 20) 10)) : wp_203 p v m Q :=
  ⟨hp, fun _ => ⟨fun z => absurd z (by omega), fun _ => ⟨fun _ => ⟨fun z => absurd z (by omega), fun _ => ⟨fun z => absurd k67 z, fun _ => zs_202x (b := 20) rfl (by omega) h0 (fun h1 => zs_202x (b := 10) rfl (by omega) h1 (fun h2 => ⟨fun z => absurd z (by omega), fun _ => ⟨fun z => absurd k67 z, fun _ => ⟨hp, by rw [zru_a (by decide), zru_a (by decide), t68]; exact ⟨fun z => absurd z (by omega), fun _ => ⟨fun _ => ⟨fun _ => hq (zrn_le h2 (by omega)), fun z => absurd z (by omega)⟩, fun z => absurd z (by omega)⟩⟩⟩⟩⟩))⟩⟩, fun z => absurd z (by omega)⟩⟩, fun z => absurd z (by omega)⟩
theorem zs_203_4 {p v tra : Int32} (hp : 0 ≤ p.toInt ∧ p.toInt < 6) (k67 : (m.1 67 p.toInt.toNat).toInt = 4) (t68 : m.1 68 p.toInt.toNat = tra) {r : Int} (hr : r ≤ 30) (h0 : zrn m r) {Q : Int32 → zf_Me → Prop} (hq : zrn (zru (zru m 51) 10) (r + 4) → Q ((v + p) - p) (zru (zru m 51) 10)) : wp_203 p v m Q :=
  ⟨hp, fun _ => ⟨fun _ => zs_202x (b := 51) rfl (by omega) h0 (fun h1 => ⟨fun z => absurd z (by omega), fun _ => ⟨fun _ => zs_202x (b := 10) rfl (by omega) h1 (fun h2 => ⟨fun z => absurd z (by omega), fun _ => ⟨fun _ => ⟨fun _ => ⟨fun _ => hq (zrn_le h2 (by omega)), fun z => absurd z (by omega)⟩, fun z => absurd k67 z⟩, fun z => absurd z (by omega)⟩⟩), fun z => absurd z (by omega)⟩⟩), fun z => absurd k67 z⟩, fun z => absurd z (by omega)⟩
theorem zs_203_5 {p v tra : Int32} (hp : 0 ≤ p.toInt ∧ p.toInt < 6) (k67 : (m.1 67 p.toInt.toNat).toInt = 5) (t68 : m.1 68 p.toInt.toNat = tra) {r : Int} (hr : r ≤ 30) (h0 : zrn m r) {Q : Int32 → zf_Me → Prop} (hq : zrn (zru m 10) (r + 4) → Q (v + p) (zru m 10)) : wp_203 p v m Q :=
  ⟨hp, fun _ => ⟨fun z => absurd z (by omega), fun _ => ⟨fun _ => ⟨fun z => absurd z (by omega), fun _ => ⟨fun _ => zs_202x (b := 10) rfl (by omega) h0 (fun h1 => ⟨fun z => absurd z (by omega), fun _ => ⟨fun _ => ⟨fun z => absurd z (by omega), fun _ => ⟨fun _ => ⟨fun _ => hq (zrn_le h1 (by omega)), fun z => absurd z (by omega)⟩, fun z => absurd z (by omega)⟩⟩, fun z => absurd z (by omega)⟩⟩), fun z => absurd z (by omega)⟩⟩, fun z => absurd z (by omega)⟩⟩, fun z => absurd z (by omega)⟩
theorem zs_203_6 {p v tra : Int32} (hp : 0 ≤ p.toInt ∧ p.toInt < 6) (k67 : (m.1 67 p.toInt.toNat).toInt = 6) (t68 : m.1 68 p.toInt.toNat = tra) {r : Int} (hr : r ≤ 30) (h0 : zrn m r) {Q : Int32 → zf_Me → Prop} (hq : zrn (zru (zru (zru m 70) 51) 10) (r + 4) → Q (((v + p) - p) * 2) (zru (zru (zru m 70) 51) 10)) : wp_203 p v m Q :=
  ⟨hp, fun z => absurd k67 z, fun _ => zs_202x (b := 70) rfl (by omega) h0 (fun h1 => ⟨fun z => absurd z (by omega), fun _ => ⟨fun z => absurd k67 z, fun _ => zs_202x (b := 51) rfl (by omega) h1 (fun h2 => ⟨fun z => absurd z (by omega), fun _ => ⟨fun _ => zs_202x (b := 10) rfl (by omega) h2 (fun h3 => ⟨fun z => absurd z (by omega), fun _ => ⟨fun _ => ⟨fun z => absurd z (by omega), fun _ => ⟨fun z => absurd k67 z, fun _ => ⟨fun z => absurd k67 z, fun _ => hq (zrn_le h3 (by omega))⟩⟩⟩, fun z => absurd z (by omega)⟩⟩), fun z => absurd z (by omega)⟩⟩)⟩⟩)⟩
theorem zs_203x {p v tra : Int32} {k : Nat} (hk : k < 7) (hp : 0 ≤ p.toInt ∧ p.toInt < 6) (k67 : (m.1 67 p.toInt.toNat).toInt = k) (t68 : m.1 68 p.toInt.toNat = tra) {r : Int} (hr : r ≤ 30) (h0 : zrn m r) {Q : Int32 → zf_Me → Prop} (hq : Q (zmv k 0 p tra v).1 (zrus m (zmv k 0 p tra v).2)) : wp_203 p v m Q := by
  have c : k = 0 ∨ k = 1 ∨ k = 2 ∨ k = 3 ∨ k = 4 ∨ k = 5 ∨ k = 6 := by omega
  rcases c with rfl | rfl | rfl | rfl | rfl | rfl | rfl
  · rw [zmv_0_0] at hq
    simp only [zrus_cons, zrus_nil] at hq
    exact zs_203_0 hp k67 t68 hr h0 (fun _ => hq)
  · rw [zmv_1_0] at hq
    simp only [zrus_cons, zrus_nil] at hq
    exact zs_203_1 hp k67 t68 hr h0 (fun _ => hq)
  · rw [zmv_2_0] at hq
    simp only [zrus_cons, zrus_nil] at hq
    exact zs_203_2 hp k67 t68 hr h0 (fun _ => hq)
  · rw [zmv_3_0] at hq
    simp only [zrus_cons, zrus_nil] at hq
    exact zs_203_3 hp k67 t68 hr h0 (fun _ => hq)
  · rw [zmv_4_0] at hq
    simp only [zrus_cons, zrus_nil] at hq
    exact zs_203_4 hp k67 t68 hr h0 (fun _ => hq)
  · rw [zmv_5_0] at hq
    simp only [zrus_cons, zrus_nil] at hq
    exact zs_203_5 hp k67 t68 hr h0 (fun _ => hq)
  · rw [zmv_6_0] at hq
    simp only [zrus_cons, zrus_nil] at hq
    exact zs_203_6 hp k67 t68 hr h0 (fun _ => hq)
theorem zs_204_0 {p v tra : Int32} (hp : 0 ≤ p.toInt ∧ p.toInt < 6) (k67 : (m.1 67 p.toInt.toNat).toInt = 0) (t68 : m.1 68 p.toInt.toNat = tra) {r : Int} (hr : r ≤ 20) (h0 : zrn m r) {Q : Int32 → zf_Me → Prop} (hq : zrn (zru (zru m 11) 10) (r + 8) → Q ((v + p) * 2) (zru (zru m 11) 10)) : wp_204 p v m Q :=
  ⟨hp, fun _ => ⟨fun _ => ⟨fun z => absurd z (by omega), fun _ => ⟨fun _ => ⟨fun _ => zs_202x (b := 11) rfl (by omega) h0 (fun h1 => zs_203_0 (tra := tra) hp (by rw [zru_a (by decide)]; exact k67) (by rw [zru_a (by decide)]; exact t68) (by omega) h1 (fun h2 => ⟨fun _ => hq (zrn_le h2 (by omega)), fun z => absurd rfl z⟩)), fun z => absurd rfl z⟩, fun z => absurd z (by omega)⟩⟩, fun z => absurd z (by omega)⟩, fun z => absurd z (by omega)⟩
theorem zs_204_1 {p v tra : Int32} (hp : 0 ≤ p.toInt ∧ p.toInt < 6) (k67 : (m.1 67 p.toInt.toNat).toInt = 1) (t68 : m.1 68 p.toInt.toNat = tra) {r : Int} (hr : r ≤ 20) (h0 : zrn m r) {Q : Int32 → zf_Me → Prop} (hq : zrn (zru (zru (zru m 11) 20) 10) (r + 8) → Q (((v + p) + tra) * 2) (zru (zru (zru m 11) 20) 10)) : wp_204 p v m Q :=
  ⟨hp, fun _ => ⟨fun _ => ⟨fun z => absurd z (by omega), fun _ => ⟨fun _ => ⟨fun _ => zs_202x (b := 11) rfl (by omega) h0 (fun h1 => zs_203_1 (tra := tra) hp (by rw [zru_a (by decide)]; exact k67) (by rw [zru_a (by decide)]; exact t68) (by omega) h1 (fun h2 => ⟨fun _ => hq (zrn_le h2 (by omega)), fun z => absurd rfl z⟩)), fun z => absurd rfl z⟩, fun z => absurd z (by omega)⟩⟩, fun z => absurd z (by omega)⟩, fun z => absurd z (by omega)⟩
theorem zs_204_2 {p v tra : Int32} (hp : 0 ≤ p.toInt ∧ p.toInt < 6) (k67 : (m.1 67 p.toInt.toNat).toInt = 2) (t68 : m.1 68 p.toInt.toNat = tra) {r : Int} (hr : r ≤ 20) (h0 : zrn m r) {Q : Int32 → zf_Me → Prop} (hq : zrn (zru (zru (zru m 30) 11) 10) (r + 8) → Q (((v + p) * 2) * 3) (zru (zru (zru m 30) 11) 10)) : wp_204 p v m Q :=
  ⟨hp, fun _ => ⟨fun _ => ⟨fun _ => ⟨fun z => absurd z (by decide), fun _ => zs_202x (b := 30) rfl (by omega) h0 (fun h1 => zs_202x (b := 11) rfl (by omega) h1 (fun h2 => zs_203_2 (tra := tra) hp (by rw [zru_a (by decide), zru_a (by decide)]; exact k67) (by rw [zru_a (by decide), zru_a (by decide)]; exact t68) (by omega) h2 (fun h3 => ⟨fun z => absurd z (by decide), fun _ => hq (zrn_le h3 (by omega))⟩)))⟩, fun z => absurd k67 z⟩, fun z => absurd z (by omega)⟩, fun z => absurd z (by omega)⟩
theorem zs_204_3 {p v tra : Int32} (hp : 0 ≤ p.toInt ∧ p.toInt < 6) (k67 : (m.1 67 p.toInt.toNat).toInt = 3) (t68 : m.1 68 p.toInt.toNat = tra) {r : Int} (hr : r ≤ 20) (h0 : zrn m r) {Q : Int32 → zf_Me → Prop} (hq : zrn (zru (zru (zru (zru m 40) 11) 20) 10) (r + 8) → Q ((((v + 1) + p) + tra) * 2) (zru (zru (zru (zru m 40) 11) 20) 10)) : wp_204 p v m Q :=
  ⟨hp, fun _ => ⟨fun z => absurd k67 z, fun _ => zs_202x (b := 40) rfl (by omega) h0 (fun h1 => ⟨fun z => absurd z (by omega), fun _ => ⟨fun _ => ⟨fun _ => zs_202x (b := 11) rfl (by omega) h1 (fun h2 => zs_203_3 (tra := tra) hp (by rw [zru_a (by decide), zru_a (by decide)]; exact k67) (by rw [zru_a (by decide), zru_a (by decide)]; exact t68) (by omega) h2 (fun h3 => ⟨fun _ => hq (zrn_le h3 (by omega)), fun z => absurd rfl z⟩)), fun z => absurd rfl z⟩, fun z => absurd z (by omega)⟩⟩)⟩, fun z => absurd z (by omega)⟩
theorem zs_204_4 {p v tra : Int32} (hp : 0 ≤ p.toInt ∧ p.toInt < 6) (k67 : (m.1 67 p.toInt.toNat).toInt = 4) (t68 : m.1 68 p.toInt.toNat = tra) {r : Int} (hr : r ≤ 20) (h0 : zrn m r) {Q : Int32 → zf_Me → Prop} (hq : zrn (zru (zru (zru m 11) 51) 10) (r + 8) → Q (((v + p) - p) * 2) (zru (zru (zru m 11) 51) 10)) : wp_204 p v m Q :=
  ⟨hp, fun _ => ⟨fun _ => ⟨fun z => absurd z (by omega), fun _ => ⟨fun _ => ⟨fun _ => zs_202x (b := 11) rfl (by omega) h0 (fun h1 => zs_203_4 (tra := tra) hp (by rw [zru_a (by decide)]; exact k67) (by rw [zru_a (by decide)]; exact t68) (by omega) h1 (fun h2 => ⟨fun _ => hq (zrn_le h2 (by omega)), fun z => absurd rfl z⟩)), fun z => absurd rfl z⟩, fun z => absurd z (by omega)⟩⟩, fun z => absurd z (by omega)⟩, fun z => absurd z (by omega)⟩
theorem zs_204_5 {p v tra : Int32} (hp : 0 ≤ p.toInt ∧ p.toInt < 6) (k67 : (m.1 67 p.toInt.toNat).toInt = 5) (t68 : m.1 68 p.toInt.toNat = tra) {r : Int} (hr : r ≤ 20) (h0 : zrn m r) {Q : Int32 → zf_Me → Prop} (hq : zrn (zru (zru (zru m 30) 11) 10) (r + 8) → Q (((v + p) * 2) * 3) (zru (zru (zru m 30) 11) 10)) : wp_204 p v m Q :=
  ⟨hp, fun _ => ⟨fun _ => ⟨fun z => absurd z (by omega), fun _ => ⟨fun z => absurd k67 z, fun _ => ⟨fun z => absurd z (by decide), fun _ => zs_202x (b := 30) rfl (by omega) h0 (fun h1 => zs_202x (b := 11) rfl (by omega) h1 (fun h2 => zs_203_5 (tra := tra) hp (by rw [zru_a (by decide), zru_a (by decide)]; exact k67) (by rw [zru_a (by decide), zru_a (by decide)]; exact t68) (by omega) h2 (fun h3 => ⟨fun z => absurd z (by decide), fun _ => hq (zrn_le h3 (by omega))⟩)))⟩⟩⟩, fun z => absurd z (by omega)⟩, fun z => absurd z (by omega)⟩
theorem zs_204_6 {p v tra : Int32} (hp : 0 ≤ p.toInt ∧ p.toInt < 6) (k67 : (m.1 67 p.toInt.toNat).toInt = 6) (t68 : m.1 68 p.toInt.toNat = tra) {r : Int} (hr : r ≤ 20) (h0 : zrn m r) {Q : Int32 → zf_Me → Prop} (hq : zrn (zru (zru (zru (zru (zru m 71) 11) 70) 51) 10) (r + 8) → Q (((((v - tra) + p) - p) * 2) * 2) (zru (zru (zru (zru (zru m 71) 11) 70) 51) 10)) : wp_204 p v m Q :=
  ⟨hp, fun z => absurd k67 z, fun _ => zs_202x (b := 71) rfl (by omega) h0 (fun h1 => ⟨hp, by rw [zru_a (by decide), t68]; exact ⟨fun _ => ⟨fun z => absurd z (by omega), fun _ => ⟨fun _ => ⟨fun _ => zs_202x (b := 11) rfl (by omega) h1 (fun h2 => zs_203_6 (tra := tra) hp (by rw [zru_a (by decide), zru_a (by decide)]; exact k67) (by rw [zru_a (by decide), zru_a (by decide)]; exact t68) (by omega) h2 (fun h3 => ⟨fun _ => hq (zrn_le h3 (by omega)), fun z => absurd rfl z⟩)), fun z => absurd rfl z⟩, fun z => absurd z (by omega)⟩⟩, fun z => absurd z (by omega)⟩⟩)⟩
theorem zs_204x {p v tra : Int32} {k : Nat} (hk : k < 7) (hp : 0 ≤ p.toInt ∧ p.toInt < 6) (k67 : (m.1 67 p.toInt.toNat).toInt = k) (t68 : m.1 68 p.toInt.toNat = tra) {r : Int} (hr : r ≤ 20) (h0 : zrn m r) {Q : Int32 → zf_Me → Prop} (hq : Q (zmv k 1 p tra v).1 (zrus m (zmv k 1 p tra v).2)) : wp_204 p v m Q := by
  have c : k = 0 ∨ k = 1 ∨ k = 2 ∨ k = 3 ∨ k = 4 ∨ k = 5 ∨ k = 6 := by omega
  rcases c with rfl | rfl | rfl | rfl | rfl | rfl | rfl
  · rw [zmv_0_1] at hq
    simp only [zrus_cons, zrus_nil] at hq
    exact zs_204_0 hp k67 t68 hr h0 (fun _ => hq)
  · rw [zmv_1_1] at hq
    simp only [zrus_cons, zrus_nil] at hq
    exact zs_204_1 hp k67 t68 hr h0 (fun _ => hq)
  · rw [zmv_2_1] at hq
    simp only [zrus_cons, zrus_nil] at hq
    exact zs_204_2 hp k67 t68 hr h0 (fun _ => hq)
  · rw [zmv_3_1] at hq
    simp only [zrus_cons, zrus_nil] at hq
    exact zs_204_3 hp k67 t68 hr h0 (fun _ => hq)
  · rw [zmv_4_1] at hq
    simp only [zrus_cons, zrus_nil] at hq
    exact zs_204_4 hp k67 t68 hr h0 (fun _ => hq)
  · rw [zmv_5_1] at hq
    simp only [zrus_cons, zrus_nil] at hq
    exact zs_204_5 hp k67 t68 hr h0 (fun _ => hq)
  · rw [zmv_6_1] at hq
    simp only [zrus_cons, zrus_nil] at hq
    exact zs_204_6 hp k67 t68 hr h0 (fun _ => hq)
theorem zs_205_0 {p v tra : Int32} (hp : 0 ≤ p.toInt ∧ p.toInt < 6) (k67 : (m.1 67 p.toInt.toNat).toInt = 0) (t68 : m.1 68 p.toInt.toNat = tra) {r : Int} (hr : r ≤ 0) (h0 : zrn m r) {Q : Int32 → zf_Me → Prop} (hq : zrn (zru (zru (zru (zru m 12) 11) 10) 10) (r + 20) → Q (((v + p) * 2) ^^^ ((v - tra) + p)) (zru (zru (zru (zru m 12) 11) 10) 10)) : wp_205 p v m Q :=
  ⟨hp, fun z => absurd z (by omega), fun _ => ⟨fun _ => ⟨fun _ => zs_202x (b := 12) rfl (by omega) h0 (fun h1 => zs_204_0 (tra := tra) hp (by rw [zru_a (by decide)]; exact k67) (by rw [zru_a (by decide)]; exact t68) (by omega) h1 (fun h2 => ⟨hp, by rw [zru_a (by decide), zru_a (by decide), zru_a (by decide), t68]; exact zs_203_0 (tra := tra) hp (by rw [zru_a (by decide), zru_a (by decide), zru_a (by decide)]; exact k67) (by rw [zru_a (by decide), zru_a (by decide), zru_a (by decide)]; exact t68) (by omega) h2 (fun h3 => ⟨fun z => absurd z (by omega), fun _ => ⟨fun _ => ⟨fun _ => hq (zrn_le h3 (by omega)), fun z => absurd z (by omega)⟩, fun z => absurd z (by omega)⟩⟩)⟩)), fun z => absurd z (by omega)⟩, fun z => absurd z (by omega)⟩⟩
theorem zs_205_1 {p v tra : Int32} (hp : 0 ≤ p.toInt ∧ p.toInt < 6) (k67 : (m.1 67 p.toInt.toNat).toInt = 1) (t68 : m.1 68 p.toInt.toNat = tra) {r : Int} (hr : r ≤ 0) (h0 : zrn m r) {Q : Int32 → zf_Me → Prop} (hq : zrn (zru (zru (zru (zru (zru (zru m 12) 11) 20) 10) 20) 10) (r + 20) → Q ((((v + p) + tra) * 2) ^^^ (((v - tra) + p) + tra)) (zru (zru (zru (zru (zru (zru m 12) 11) 20) 10) 20) 10)) : wp_205 p v m Q :=
  ⟨hp, fun z => absurd z (by omega), fun _ => ⟨fun _ => ⟨fun _ => zs_202x (b := 12) rfl (by omega) h0 (fun h1 => zs_204_1 (tra := tra) hp (by rw [zru_a (by decide)]; exact k67) (by rw [zru_a (by decide)]; exact t68) (by omega) h1 (fun h2 => ⟨hp, by rw [zru_a (by decide), zru_a (by decide), zru_a (by decide), zru_a (by decide), t68]; exact zs_203_1 (tra := tra) hp (by rw [zru_a (by decide), zru_a (by decide), zru_a (by decide), zru_a (by decide)]; exact k67) (by rw [zru_a (by decide), zru_a (by decide), zru_a (by decide), zru_a (by decide)]; exact t68) (by omega) h2 (fun h3 => ⟨fun z => absurd z (by omega), fun _ => ⟨fun _ => ⟨fun _ => hq (zrn_le h3 (by omega)), fun z => absurd z (by omega)⟩, fun z => absurd z (by omega)⟩⟩)⟩)), fun z => absurd z (by omega)⟩, fun z => absurd z (by omega)⟩⟩
theorem zs_205_2 {p v tra : Int32} (hp : 0 ≤ p.toInt ∧ p.toInt < 6) (k67 : (m.1 67 p.toInt.toNat).toInt = 2) (t68 : m.1 68 p.toInt.toNat = tra) {r : Int} (hr : r ≤ 0) (h0 : zrn m r) {Q : Int32 → zf_Me → Prop} (hq : zrn (zru (zru (zru (zru (zru m 12) 30) 11) 10) 10) (r + 20) → Q ((((v + p) * 2) * 3) ^^^ ((v - tra) + p)) (zru (zru (zru (zru (zru m 12) 30) 11) 10) 10)) : wp_205 p v m Q :=
  ⟨hp, fun z => absurd z (by omega), fun _ => ⟨fun _ => ⟨fun _ => zs_202x (b := 12) rfl (by omega) h0 (fun h1 => zs_204_2 (tra := tra) hp (by rw [zru_a (by decide)]; exact k67) (by rw [zru_a (by decide)]; exact t68) (by omega) h1 (fun h2 => ⟨hp, by rw [zru_a (by decide), zru_a (by decide), zru_a (by decide), zru_a (by decide), t68]; exact zs_203_2 (tra := tra) hp (by rw [zru_a (by decide), zru_a (by decide), zru_a (by decide), zru_a (by decide)]; exact k67) (by rw [zru_a (by decide), zru_a (by decide), zru_a (by decide), zru_a (by decide)]; exact t68) (by omega) h2 (fun h3 => ⟨fun z => absurd z (by omega), fun _ => ⟨fun _ => ⟨fun _ => hq (zrn_le h3 (by omega)), fun z => absurd z (by omega)⟩, fun z => absurd z (by omega)⟩⟩)⟩)), fun z => absurd z (by omega)⟩, fun z => absurd z (by omega)⟩⟩
theorem zs_205_3 {p v tra : Int32} (hp : 0 ≤ p.toInt ∧ p.toInt < 6) (k67 : (m.1 67 p.toInt.toNat).toInt = 3) (t68 : m.1 68 p.toInt.toNat = tra) {r : Int} (hr : r ≤ 0) (h0 : zrn m r) {Q : Int32 → zf_Me → Prop} (hq : zrn (zru (zru (zru (zru (zru (zru (zru m 12) 40) 11) 20) 10) 20) 10) (r + 20) → Q (((((v + 1) + p) + tra) * 2) ^^^ (((v - tra) + p) + tra)) (zru (zru (zru (zru (zru (zru (zru m 12) 40) 11) 20) 10) 20) 10)) : wp_205 p v m Q :=
  ⟨hp, fun z => absurd z (by omega), fun _ => ⟨fun _ => ⟨fun _ => zs_202x (b := 12) rfl (by omega) h0 (fun h1 => zs_204_3 (tra := tra) hp (by rw [zru_a (by decide)]; exact k67) (by rw [zru_a (by decide)]; exact t68) (by omega) h1 (fun h2 => ⟨hp, by rw [zru_a (by decide), zru_a (by decide), zru_a (by decide), zru_a (by decide), zru_a (by decide), t68]; exact zs_203_3 (tra := tra) hp (by rw [zru_a (by decide), zru_a (by decide), zru_a (by decide), zru_a (by decide), zru_a (by decide)]; exact k67) (by rw [zru_a (by decide), zru_a (by decide), zru_a (by decide), zru_a (by decide), zru_a (by decide)]; exact t68) (by omega) h2 (fun h3 => ⟨fun z => absurd z (by omega), fun _ => ⟨fun _ => ⟨fun _ => hq (zrn_le h3 (by omega)), fun z => absurd z (by omega)⟩, fun z => absurd z (by omega)⟩⟩)⟩)), fun z => absurd z (by omega)⟩, fun z => absurd z (by omega)⟩⟩
theorem zs_205_4 {p v tra : Int32} (hp : 0 ≤ p.toInt ∧ p.toInt < 6) (k67 : (m.1 67 p.toInt.toNat).toInt = 4) (t68 : m.1 68 p.toInt.toNat = tra) {r : Int} (hr : r ≤ 0) (h0 : zrn m r) {Q : Int32 → zf_Me → Prop} (hq : zrn (zru (zru (zru (zru (zru (zru (zru m 50) 12) 11) 51) 10) 51) 10) (r + 20) → Q (-((((v + p) - p) * 2) ^^^ (((v - tra) + p) - p))) (zru (zru (zru (zru (zru (zru (zru m 50) 12) 11) 51) 10) 51) 10)) : wp_205 p v m Q :=
  ⟨hp, fun _ => zs_202x (b := 50) rfl (by omega) h0 (fun h1 => ⟨fun _ => zs_202x (b := 12) rfl (by omega) h1 (fun h2 => zs_204_4 (tra := tra) hp (by rw [zru_a (by decide), zru_a (by decide)]; exact k67) (by rw [zru_a (by decide), zru_a (by decide)]; exact t68) (by omega) h2 (fun h3 => ⟨hp, by rw [zru_a (by decide), zru_a (by decide), zru_a (by decide), zru_a (by decide), zru_a (by decide), t68]; exact zs_203_4 (tra := tra) hp (by rw [zru_a (by decide), zru_a (by decide), zru_a (by decide), zru_a (by decide), zru_a (by decide)]; exact k67) (by rw [zru_a (by decide), zru_a (by decide), zru_a (by decide), zru_a (by decide), zru_a (by decide)]; exact t68) (by omega) h3 (fun h4 => ⟨fun _ => hq (zrn_le h4 (by omega)), fun z => absurd k67 z⟩)⟩)), fun z => absurd z (by omega)⟩), fun z => absurd k67 z⟩
theorem zs_205_5 {p v tra : Int32} (hp : 0 ≤ p.toInt ∧ p.toInt < 6) (k67 : (m.1 67 p.toInt.toNat).toInt = 5) (t68 : m.1 68 p.toInt.toNat = tra) {r : Int} (hr : r ≤ 0) (h0 : zrn m r) {Q : Int32 → zf_Me → Prop} (hq : zrn (zru (zru (zru (zru (zru (zru m 60) 12) 30) 11) 10) 10) (r + 20) → Q (((((v + p) * 2) * 3) ^^^ ((v - tra) + p)) ^^^ 5) (zru (zru (zru (zru (zru (zru m 60) 12) 30) 11) 10) 10)) : wp_205 p v m Q :=
  ⟨hp, fun z => absurd z (by omega), fun _ => ⟨fun _ => ⟨fun z => absurd k67 z, fun _ => zs_202x (b := 60) rfl (by omega) h0 (fun h1 => zs_202x (b := 12) rfl (by omega) h1 (fun h2 => zs_204_5 (tra := tra) hp (by rw [zru_a (by decide), zru_a (by decide)]; exact k67) (by rw [zru_a (by decide), zru_a (by decide)]; exact t68) (by omega) h2 (fun h3 => ⟨hp, by rw [zru_a (by decide), zru_a (by decide), zru_a (by decide), zru_a (by decide), zru_a (by decide), t68]; exact zs_203_5 (tra := tra) hp (by rw [zru_a (by decide), zru_a (by decide), zru_a (by decide), zru_a (by decide), zru_a (by decide)]; exact k67) (by rw [zru_a (by decide), zru_a (by decide), zru_a (by decide), zru_a (by decide), zru_a (by decide)]; exact t68) (by omega) h3 (fun h4 => ⟨fun z => absurd z (by omega), fun _ => ⟨fun _ => ⟨fun z => absurd k67 z, fun _ => hq (zrn_le h4 (by omega))⟩, fun z => absurd z (by omega)⟩⟩)⟩)))⟩, fun z => absurd z (by omega)⟩⟩
theorem zs_205_6 {p v tra : Int32} (hp : 0 ≤ p.toInt ∧ p.toInt < 6) (k67 : (m.1 67 p.toInt.toNat).toInt = 6) (t68 : m.1 68 p.toInt.toNat = tra) {r : Int} (hr : r ≤ 0) (h0 : zrn m r) {Q : Int32 → zf_Me → Prop} (hq : zrn (zru (zru (zru (zru (zru (zru (zru (zru (zru (zru m 50) 12) 71) 11) 70) 51) 10) 70) 51) 10) (r + 20) → Q (-((((((v - tra) + p) - p) * 2) * 2) ^^^ ((((v - tra) + p) - p) * 2))) (zru (zru (zru (zru (zru (zru (zru (zru (zru (zru m 50) 12) 71) 11) 70) 51) 10) 70) 51) 10)) : wp_205 p v m Q :=
  ⟨hp, fun z => absurd z (by omega), fun _ => ⟨fun z => absurd k67 z, fun _ => zs_202x (b := 50) rfl (by omega) h0 (fun h1 => ⟨fun _ => zs_202x (b := 12) rfl (by omega) h1 (fun h2 => zs_204_6 (tra := tra) hp (by rw [zru_a (by decide), zru_a (by decide)]; exact k67) (by rw [zru_a (by decide), zru_a (by decide)]; exact t68) (by omega) h2 (fun h3 => ⟨hp, by rw [zru_a (by decide), zru_a (by decide), zru_a (by decide), zru_a (by decide), zru_a (by decide), zru_a (by decide), zru_a (by decide), t68]; exact zs_203_6 (tra := tra) hp (by rw [zru_a (by decide), zru_a (by decide), zru_a (by decide), zru_a (by decide), zru_a (by decide), zru_a (by decide), zru_a (by decide)]; exact k67) (by rw [zru_a (by decide), zru_a (by decide), zru_a (by decide), zru_a (by decide), zru_a (by decide), zru_a (by decide), zru_a (by decide)]; exact t68) (by omega) h3 (fun h4 => ⟨fun z => absurd z (by omega), fun _ => ⟨fun z => absurd k67 z, fun _ => hq (zrn_le h4 (by omega))⟩⟩)⟩)), fun z => absurd z (by omega)⟩)⟩⟩
theorem zs_205x {p v tra : Int32} {k : Nat} (hk : k < 7) (hp : 0 ≤ p.toInt ∧ p.toInt < 6) (k67 : (m.1 67 p.toInt.toNat).toInt = k) (t68 : m.1 68 p.toInt.toNat = tra) {r : Int} (hr : r ≤ 0) (h0 : zrn m r) {Q : Int32 → zf_Me → Prop} (hq : Q (zmv k 2 p tra v).1 (zrus m (zmv k 2 p tra v).2)) : wp_205 p v m Q := by
  have c : k = 0 ∨ k = 1 ∨ k = 2 ∨ k = 3 ∨ k = 4 ∨ k = 5 ∨ k = 6 := by omega
  rcases c with rfl | rfl | rfl | rfl | rfl | rfl | rfl
  · rw [zmv_0_2] at hq
    simp only [zrus_cons, zrus_nil] at hq
    exact zs_205_0 hp k67 t68 hr h0 (fun _ => hq)
  · rw [zmv_1_2] at hq
    simp only [zrus_cons, zrus_nil] at hq
    exact zs_205_1 hp k67 t68 hr h0 (fun _ => hq)
  · rw [zmv_2_2] at hq
    simp only [zrus_cons, zrus_nil] at hq
    exact zs_205_2 hp k67 t68 hr h0 (fun _ => hq)
  · rw [zmv_3_2] at hq
    simp only [zrus_cons, zrus_nil] at hq
    exact zs_205_3 hp k67 t68 hr h0 (fun _ => hq)
  · rw [zmv_4_2] at hq
    simp only [zrus_cons, zrus_nil] at hq
    exact zs_205_4 hp k67 t68 hr h0 (fun _ => hq)
  · rw [zmv_5_2] at hq
    simp only [zrus_cons, zrus_nil] at hq
    exact zs_205_5 hp k67 t68 hr h0 (fun _ => hq)
  · rw [zmv_6_2] at hq
    simp only [zrus_cons, zrus_nil] at hq
    exact zs_205_6 hp k67 t68 hr h0 (fun _ => hq)
theorem zG_206 (hJ : JM m) {p w v : Int32} {Q : Int32 → zf_Me → Prop} (K : ∀ m', zgE m m' → zTR m' (zN104 (zr m) p w v).2 → Q (zN104 (zr m) p w v).1 m') : wp_206 p w v m Q := by
  intro m1 q1
  have f1 : zgE m m1 := by
    rw [q1]
    exact zgE_u zgr_refl (by omega)
  have z1 : zr m1 = zr m := zr_of f1 (fun a k z => by omega)
  have b := zB_r hJ.1
  have p6 : zr m 5 6 = (m.1 63 1).toInt := rfl
  have c1 : m1.1 63 1 = m.1 63 1 := f1.1 63 1 (by omega)
  have r0 : (m1.1 63 51).toInt = ((0 : Nat) : Int) := by rw [q1, zf_u3]; rfl
  have r : zrn m1 0 := by
    unfold zrn
    rw [r0]
    decide
  have no : ¬ (0 ≤ p.toInt ∧ p.toInt < zr m 5 6) ∨ ¬ (0 ≤ w.toInt ∧ w.toInt < 3) → Q 0 m1 := fun g => by
    have e : zN104 (zr m) p w v = (0, []) := if_pos g
    rw [e] at K
    exact K m1 f1 ⟨r0, fun i _ z => absurd z (Nat.not_lt_zero i)⟩
  refine zs_128 (fun g => ⟨fun z => (nomatch z), fun _ => ⟨fun z => no (Or.inr (by omega)), fun g2 => ⟨fun g3 => ?_, fun z => no (Or.inr (by omega))⟩⟩⟩) (fun g => ⟨fun _ => no (Or.inl (by rw [c1] at g; exact g)), fun z => (nomatch z)⟩)
  rw [c1] at g
  have b3 := zB_r3 hJ.1 (k := p.toInt.toNat) (by omega)
  have a2 : zr m 2 p.toInt.toNat = (m.1 67 p.toInt.toNat).toInt := zN_lt (by omega)
  have a3 : zr m 3 p.toInt.toNat = (m.1 68 p.toInt.toNat).toInt := zN_lt (by omega)
  have e : zN104 (zr m) p w v = zmv (m.1 67 p.toInt.toNat).toInt.toNat w.toInt.toNat p (m.1 68 p.toInt.toNat) v := by
    unfold zN104
    rw [if_neg (by omega), a2, a3, Int32.ofInt_toInt]
  rw [e] at K
  have ok := (zmv_eq (own := (m.1 67 p.toInt.toNat).toInt.toNat) (v := w.toInt.toNat) (by omega) (by omega) p (m.1 68 p.toInt.toNat) v).2
  have k67 : (m1.1 67 p.toInt.toNat).toInt = (((m.1 67 p.toInt.toNat).toInt.toNat : Nat) : Int) := by
    rw [f1.1 67 _ (by omega)]
    omega
  have t68 : m1.1 68 p.toInt.toNat = m.1 68 p.toInt.toNat := f1.1 68 _ (by omega)
  have fin : Q (zmv (m.1 67 p.toInt.toNat).toInt.toNat w.toInt.toNat p (m.1 68 p.toInt.toNat) v).1 (zrus m1 (zmv (m.1 67 p.toInt.toNat).toInt.toNat w.toInt.toNat p (m.1 68 p.toInt.toNat) v).2) := by
    have c := zrus_c (zmv (m.1 67 p.toInt.toNat).toInt.toNat w.toInt.toNat p (m.1 68 p.toInt.toNat) v).2 r0 (by omega)
    refine K _ (zgE_t f1 (zrus_f _)) ⟨?_, fun i i1 i2 => ?_⟩
    · rw [c.1]
      omega
    · rw [c.2 i i1 (by omega), if_neg (Nat.not_lt_zero i)]
      rfl
  have hp : 0 ≤ p.toInt ∧ p.toInt < 6 := by omega
  have k7 : (m.1 67 p.toInt.toNat).toInt.toNat < 7 := by omega
  refine ⟨fun n0 => ⟨fun n1 => ?_, fun e1 => ?_⟩, fun e0 => ?_⟩
  · rw [show w.toInt.toNat = 2 by omega] at fin
    exact zs_205x k7 hp k67 t68 (Int.le_refl 0) r fin
  · rw [show w.toInt.toNat = 1 by omega] at fin
    exact zs_204x k7 hp k67 t68 (by decide) r fin
  · rw [show w.toInt.toNat = 0 by omega] at fin
    exact zs_203x k7 hp k67 t68 (by decide) r fin
theorem zA_108 (hJ : JX m) {w : Int32} {Q : Int32 → zf_Me → Prop} (K : ∀ v, Q v m) : wp_108 w m Q := by
  have e6 : (6 : Int32).toInt = 6 := rfl
  have e10 : (10 : Int32).toInt = 10 := rfl
  have t46 : wq_108_46 w m Q := ⟨fun _ => K _, fun _ => K _, fun _ => K _, fun _ => K _, fun _ => K _, fun _ => K _, fun _ => K _, fun _ => K _, fun _ => K _, fun _ => K _, fun _ => K _, fun _ => K _, fun _ => K _, fun _ => K _, fun _ => K _, fun _ => K _, fun _ => K _, fun _ => K _, fun _ => K _, fun _ => K _, fun _ => K _, fun _ => zs_48 (fun b _ => ⟨fun _ => K _, fun _ => K _⟩)⟩
  have t24 : wq_108_24 w m Q := by
    refine ⟨fun _ => t46, fun g => ⟨fun _ => t46, fun g2 => ?_⟩⟩
    have s := fb_subI (x := w) (y := 10) (by omega) (by omega)
    exact ⟨by omega, K _⟩
  refine ⟨fun _ => t24, fun g => ⟨fun _ => t24, fun g2 => ?_⟩⟩
  have s := fb_subI (x := w) (y := 6) (by omega) (by omega)
  exact zs_45 (w := 2) (y := 3) (r := 8) (by omega) (fun x _ => K _)
theorem zG_210 (hJ : JM m) {w : Int32} {Q : Int32 → zf_Me → Prop} (K : ∀ v, Q v m) : wp_210 w m Q := by
  have e6 : (6 : Int32).toInt = 6 := rfl
  have e10 : (10 : Int32).toInt = 10 := rfl
  have t43 : wq_210_43 w m Q := ⟨fun _ => K _, fun _ => K _, fun _ => K _, fun _ => K _, fun _ => K _, fun _ => K _, fun _ => K _, fun _ => K _, fun _ => K _, fun _ => K _, fun _ => K _, fun _ => K _, fun _ => K _, fun _ => K _, fun _ => K _, fun _ => K _, fun _ => K _, fun _ => K _, fun _ => K _, fun _ => K _, fun _ => K _, fun _ => zs_164 (fun b _ => ⟨fun _ => K _, fun _ => K _⟩)⟩
  have t22 : wq_210_22 w m Q := by
    refine ⟨fun _ => t43, fun g => ⟨fun _ => t43, fun g2 => ?_⟩⟩
    have s := fb_subI (x := w) (y := 6) (by omega) (by omega)
    exact zs_147 (by omega) (fun x _ => K _)
  refine ⟨fun _ => t22, fun g => ⟨fun _ => t22, fun g2 => ?_⟩⟩
  have s := fb_subI (x := w) (y := 10) (by omega) (by omega)
  exact ⟨by omega, K _⟩
end
end
section
/-! part 8e: what walks keep: bounds, nobody tired beyond PEOPLE, PEOPLE never fewer -/
theorem zTz_of {f g : zS} (h : zTz f) (hp : f 5 6 ≤ g 5 6) (ht : ∀ k : Nat, k < 6 → g 5 6 ≤ k → g 4 k = f 4 k) : zTz g := fun k k6 hk => by
  rw [ht k k6 hk]
  exact h k k6 (by omega)
def zGo (f g : zS) : Prop := zB g ∧ zTz g ∧ f 5 6 ≤ g 5 6
theorem zGo_refl {f : zS} (hB : zB f) (hT : zTz f) : zGo f f := ⟨hB, hT, Int.le_refl _⟩
theorem zGo_t {f g h : zS} (a : zGo f g) (b : zGo g h) : zGo f h := ⟨b.1, b.2.1, Int.le_trans a.2.2 b.2.2⟩
theorem zGo_u5 {f : zS} {k : Nat} {x : Int} (hT : zTz f) (hk : ¬ k = 6) (hB : zB (zU f 5 k x)) : zGo f (zU f 5 k x) := by
  have p : zU f 5 k x 5 6 = f 5 6 := zU_o (by omega)
  exact ⟨hB, zTz_of hT (by rw [p]; exact Int.le_refl _) (fun j _ _ => zU_o (by omega)), by rw [p]; exact Int.le_refl _⟩
theorem zGo_addF {f : zS} {s t : Int} (hT : zTz f) (hB : zB (zaddF f s t)) : zGo f (zaddF f s t) := by
  have p : zaddF f s t 5 6 = f 5 6 := by
    unfold zaddF
    rw [zU_o (by omega), zU_o (by omega), zU_o (by omega)]
  refine ⟨hB, zTz_of hT (by rw [p]; exact Int.le_refl _) (fun j _ _ => ?_), by rw [p]; exact Int.le_refl _⟩
  unfold zaddF
  rw [zU_o (by omega), zU_o (by omega), zU_o (by omega)]
theorem zGo_addP {f : zS} {s t : Int} (hT : zTz f) (hp : 0 ≤ f 5 6) (hB : zB (zaddP f s t)) : zGo f (zaddP f s t) := by
  have p : zaddP f s t 5 6 = f 5 6 + 1 := zU_s
  refine ⟨hB, zTz_of hT (by rw [p]; omega) (fun j _ hj => ?_), by rw [p]; omega⟩
  rw [p] at hj
  unfold zaddP
  rw [zU_o (by omega), zU_o (by omega), zU_o (by omega), zU_o (by omega)]
theorem zGo_act {f : zS} {a : Int} (hB : zB f) (hT : zTz f) (ha : zmay f a) : zGo f (zact f a) := by
  have b := hB.1
  have p : zact f a 5 6 = f 5 6 := zact_people
  have ge : ∀ (g : zS) (c : Int) (k : Nat), f 5 6 ≤ k → zrestO g c (f 5 6).toNat 4 k = g 4 k := fun g c k hk => zrestO_ge (by omega)
  refine ⟨zB_act hB ha, zTz_of hT (by rw [p]; exact Int.le_refl _) (fun k _ hk => ?_), by rw [p]; exact Int.le_refl _⟩
  rw [p] at hk
  have wd : ∀ g : zS, g 5 6 = f 5 6 → zwalkd g 4 k = g 4 k := fun g hg => by
    unfold zwalkd
    rw [zU_o (by omega), hg, ge _ _ _ hk, zU_o (by omega), zU_o (by omega), zU_o (by omega)]
  unfold zact
  split
  · exact wd f rfl
  · split
    · rw [wd _ (by rw [zU_o (by omega), zU_o (by omega)]), zU_o (by omega), zU_o (by omega)]
    · split
      · rw [wd _ (by rw [zU_o (by omega), zU_o (by omega)]), zU_o (by omega), zU_o (by omega)]
      · split
        · unfold zresta zrestA
          rw [if_neg (by omega), zU_o (by omega), zU_o (by omega), zU_o (by omega)]
        · rename_i n6 n7 n8 n9
          have c : zcarryOk f a := by
            rcases ha with z | z | z | z | z
            · exact absurd z.1 n6
            · exact absurd z.1 n7
            · exact absurd z.1 n8
            · exact absurd z.1 n9
            · exact z.2.2.2.2
          have c1 := c.1
          unfold zcarry
          rw [zU_o (by omega), ge _ _ _ hk]
          unfold zcar3
          rw [zU_o (by omega), zcar2_o (by omega)]
          unfold zcar1
          rw [zU_o (by omega), zU_o (by omega)]
theorem zGo_tire {f : zS} {p : Nat} {x : Int} (hT : zTz f) (hp : (p : Int) < f 5 6) (hB : zB (zU f 4 p x)) : zGo f (zU f 4 p x) := by
  have q : zU f 4 p x 5 6 = f 5 6 := zU_o (by omega)
  refine ⟨hB, zTz_of hT (by rw [q]; exact Int.le_refl _) (fun k _ hk => ?_), by rw [q]; exact Int.le_refl _⟩
  rw [q] at hk
  exact zU_o (by omega)
theorem zGo_stile {f : zS} {p : Nat} {x : Int} (hT : zTz f) (hB : zB (zU f 1 p x)) : zGo f (zU f 1 p x) := by
  have q : zU f 1 p x 5 6 = f 5 6 := zU_o (by omega)
  exact ⟨hB, zTz_of hT (by rw [q]; exact Int.le_refl _) (fun k _ hk => zU_o (by omega)), by rw [q]; exact Int.le_refl _⟩
theorem zGo_ask {f : zS} {w : Nat} {v : Int} (hT : zTz f) (hw : w < 5) (hB : zB (zask f w v)) : zGo f (zask f w v) := by
  have q : zask f w v 5 6 = f 5 6 := by
    unfold zask
    split
    · rw [zU_o (by omega), zU_o (by omega)]
    · rw [zU_o (by omega)]
  refine ⟨hB, zTz_of hT (by rw [q]; exact Int.le_refl _) (fun k _ hk => ?_), by rw [q]; exact Int.le_refl _⟩
  unfold zask
  split
  · rw [zU_o (by omega), zU_o (by omega)]
  · rw [zU_o (by omega)]
-- the calls
theorem zGo_75 {f : zS} {s t : Int} (hB : zB f) (hT : zTz f) : zGo f (zN75 f s t).2 := by
  unfold zN75
  split
  · exact zGo_refl hB hT
  · split
    · exact zGo_addF hT (zB_addF hB (by omega) (by omega) (by split <;> decide))
    · exact zGo_refl hB hT
theorem zGo_76 {f : zS} {s t : Int} (hB : zB f) (hT : zTz f) : zGo f (zN76 f s t).2 := by
  have b := hB.1
  unfold zN76
  split
  · exact zGo_refl hB hT
  · split
    · exact zGo_refl hB hT
    · split
      · exact zGo_addP hT (by omega) (zB_addP hB (by omega) (by omega) (by omega))
      · exact zGo_refl hB hT
theorem zGo_79 {f : zS} {w v : Int} (hB : zB f) (hT : zTz f) : zGo f (zN79 f w v).2 := by
  unfold zN79
  split
  · exact zGo_refl hB hT
  · split
    · rename_i g1 g2
      exact zGo_ask hT (by omega) (zB_ask hB (by omega) g2)
    · exact zGo_refl hB hT
theorem zGo_80 {f : zS} {p v : Int} (hB : zB f) (hT : zTz f) : zGo f (zN80 f p v).2 := by
  unfold zN80
  split
  · exact zGo_refl hB hT
  · split
    · exact zGo_refl hB hT
    · exact zGo_tire hT (by omega) (zB_tire hB (by omega))
theorem zGo_81 {f : zS} {p : Int} (hB : zB f) (hT : zTz f) : zGo f (zN81 f p).2 := by
  have b := hB.1
  unfold zN81
  split
  · exact zGo_u5 hT (by decide) (zB_bag hB (by omega))
  · exact zGo_refl hB hT
theorem zGo_100 {f : zS} {a : Int} (hB : zB f) (hT : zTz f) : zGo f (zN100 f a).2 := by
  unfold zN100
  split
  · rename_i g
    exact zGo_act hB hT g
  · exact zGo_refl hB hT
theorem zGo_sum1 {f : zS} (hB : zB f) (hT : zTz f) : zGo f (zsum1 f) := by
  unfold zsum1
  split
  · exact zGo_refl hB hT
  · rename_i g
    have c := zbc_ok (zbits f 10) (zbits_lt f 10)
    have p := c.2.1 g
    rw [zpcr_cnt f 10 0 (by decide)] at p
    have m1 := Int.emod_nonneg (zup (znexts (f 5 12))) (show (zcnt f 10 0 : Int) ≠ 0 by omega)
    have m2 := Int.emod_lt_of_pos (zup (znexts (f 5 12))) (show (0 : Int) < zcnt f 10 0 by omega)
    have a := zGo_u5 (k := 12) (x := znexts (f 5 12)) hT (by decide) (zB_seed (s := Int32.ofInt (f 5 12) * 1103515245 + 12345) hB)
    exact zGo_t a (zGo_act a.1 a.2.1 (zmay_seed.mpr (zpick_ok f 10 0 _ m1 m2)))
theorem zGo_summ : ∀ (n : Nat) {f : zS}, zB f → zTz f → zGo f (zsumm f n)
  | 0, _, hB, hT => zGo_refl hB hT
  | n + 1, _, hB, hT => by
    have a := zGo_sum1 hB hT
    exact zGo_t a (zGo_summ n a.1 a.2.1)
theorem zGo_101 {f : zS} {n : Int} (hB : zB f) (hT : zTz f) : zGo f (zN101 f n).2 := by
  unfold zN101
  split
  · exact zGo_summ _ hB hT
  · exact zGo_refl hB hT
theorem zGo_try {x : zHe} : ∀ (n i : Nat) {f : zS}, zB f → zTz f → zGo f (ztry x f n i).2
  | 0, _, _, hB, hT => zGo_refl hB hT
  | n + 1, i, f, hB, hT => by
    unfold ztry
    split
    · rename_i g
      have a := zGo_act hB hT g
      exact zGo_t a (zGo_try n (i + 1) a.1 a.2.1)
    · exact zGo_refl hB hT
theorem zGo_96 {h : zH} {f : zS} {s n : Int} (hB : zB f) (hT : zTz f) : zGo f (zN96 h f s n).2 := by
  unfold zN96
  split
  · exact zGo_refl hB hT
  · split
    · exact zGo_try _ _ hB hT
    · exact zGo_refl hB hT
theorem zGo_dayT {f : zS} : ∀ n, n ≤ 6 → zB f → zTz f → zGo f (zdayT f n)
  | 0, _, hB, hT => zGo_refl hB hT
  | n + 1, h, hB, hT => by
    have a := zGo_dayT n (by omega) hB hT
    refine zGo_t a ?_
    show zGo (zdayT f n) (zU (zdayT f n) 4 n 0)
    by_cases g : (n : Int) < zdayT f n 5 6
    · exact zGo_tire a.2.1 g (zB_tire a.1 (by decide))
    · have z := a.2.1 n (by omega) (by omega)
      have i := zU_id (f := zdayT f n) (c := 4) (k := n)
      rw [z] at i
      rw [i]
      exact zGo_refl a.1 a.2.1
theorem zB_day0 {f : zS} (h : zB f) : zB (zday0 f) := by
  have h1 := h.1
  refine ⟨?_, zB2_u5 (zB2_u5 (zB2_u5 (zB2_u5 h.2.1))), zB3_u5 (zB3_u5 (zB3_u5 (zB3_u5 h.2.2)))⟩
  show zB1 (f 5 0) (f 5 1) (f 5 2) (f 5 3) (f 5 4) (f 5 5) (f 5 6) (f 5 7) (f 5 0) 0 0 0 (f 5 12)
  omega
theorem zGo_102 {f : zS} (hB : zB f) (hT : zTz f) : zGo f (zN102 f).2 := by
  have q : zday0 f 5 6 = f 5 6 := by
    unfold zday0
    rw [zU_o (by omega), zU_o (by omega), zU_o (by omega), zU_o (by omega)]
  have a : zGo f (zday0 f) := ⟨zB_day0 hB, zTz_of hT (by rw [q]; exact Int.le_refl _) (fun k _ _ => by
    unfold zday0
    rw [zU_o (by omega), zU_o (by omega), zU_o (by omega), zU_o (by omega)]), by rw [q]; exact Int.le_refl _⟩
  exact zGo_t a (zGo_dayT 6 (Nat.le_refl _) a.1 a.2.1)
theorem zGo_103 {f : zS} {v : Int32} (hB : zB f) (hT : zTz f) : zGo f (zN103 f v.toInt).2 := zGo_u5 hT (by decide) (zB_seed hB)
theorem zone_go {T : zT} {q lo hi : Int} {f : zS} {g : Int → zS} (e : (zone (znum T q lo hi) g f).1 = -1) (q0 : 0 ≤ q) (hg : ∀ v, 0 ≤ v → lo ≤ v → v ≤ hi → v ≤ 99 → zGo f (g v)) : zGo f (zone (znum T q lo hi) g f).2.2 := by
  unfold zone at e ⊢
  by_cases n : (znum T q lo hi).1 = -1
  · rw [if_pos n] at e
    have := znum_f q0 n
    exact absurd (show (znum T q lo hi).2 = -1 from e) (by omega)
  · rw [if_neg n]
    have b := znum_b n
    exact hg _ b.2.1.1 b.2.1.2.1 b.2.1.2.2.1 b.2.1.2.2.2
theorem ztwo_go {T : zT} {q lo hi : Int} {f : zS} {g : Int → Int → zIt} (e : (ztwo (znum T q lo hi) g f).1 = -1) (q0 : 0 ≤ q) (hg : ∀ v q2, (g v q2).1 = -1 → 0 ≤ v → lo ≤ v → v ≤ hi → v ≤ 99 → q + 1 < q2 → zGo f (g v q2).2.2) : zGo f (ztwo (znum T q lo hi) g f).2.2 := by
  unfold ztwo at e ⊢
  by_cases n : (znum T q lo hi).1 = -1
  · rw [if_pos n] at e
    have := znum_f q0 n
    exact absurd (show (znum T q lo hi).2 = -1 from e) (by omega)
  · rw [if_neg n] at e ⊢
    have b := znum_b n
    exact hg _ _ e b.2.1.1 b.2.1.2.1 b.2.1.2.2.1 b.2.1.2.2.2 b.2.2.1
theorem zGo_arg {T : zT} {f : zS} {w : Nat} {q : Int} (hB : zB f) (hT : zTz f) (hr0 : zroomB f w = true) (hw : w < 12) (q0 : 0 ≤ q) (e : (zarg T f w q).1 = -1) : zGo f (zarg T f w q).2.2 := by
  have hr := zroom_i.mp hr0
  have b := hB.1
  unfold zarg at e ⊢
  by_cases e0 : w = 0
  · rw [if_pos e0] at e ⊢
    exact zone_go e q0 (fun v a1 a2 a3 a4 => zGo_addF hT (zB_addF hB (hr.1 (Or.inl e0)) (by omega) (by decide)))
  rw [if_neg e0] at e ⊢
  by_cases e1 : w = 1
  · rw [if_pos e1] at e ⊢
    exact zone_go e q0 (fun v a1 a2 a3 a4 => zGo_addF hT (zB_addF hB (hr.1 (Or.inr e1)) (by omega) (by decide)))
  rw [if_neg e1] at e ⊢
  by_cases e2 : w = 2
  · rw [if_pos e2]
    exact zGo_stile hT (zB_til hB)
  rw [if_neg e2] at e ⊢
  by_cases e3 : w = 3
  · rw [if_pos e3] at e ⊢
    have r3 := hr.2.2 e3
    clear hr
    exact ztwo_go e q0 (fun a q2 er a1 a2 a3 a4 a5 => zone_go er (by omega) (fun v c1 c2 c3 c4 => zGo_addP hT (by omega) (zB_addP hB r3 (by omega) (by omega))))
  rw [if_neg e3] at e ⊢
  by_cases e4 : w = 4
  · rw [if_pos e4] at e ⊢
    clear hr
    exact ztwo_go e q0 (fun a q2 er a1 a2 a3 a4 a5 => zone_go er (by omega) (fun v c1 c2 c3 c4 => zGo_tire hT (by omega) (zB_tire hB (by omega))))
  rw [if_neg e4] at e ⊢
  by_cases e5 : w = 5
  · rw [if_pos e5] at e ⊢
    clear hr
    exact zone_go e q0 (fun v a1 a2 a3 a4 => zGo_u5 hT (by decide) (zB_bag hB (by omega)))
  rw [if_neg e5] at e ⊢
  by_cases e6 : w = 6
  · rw [if_pos e6] at e ⊢
    clear hr
    refine ztwo_go e q0 (fun a q2 er a1 a2 a3 a4 a5 => ?_)
    by_cases m : zmay f a
    · rw [if_pos m]
      exact zGo_act hB hT m
    · rw [if_neg m]
      exact zGo_refl hB hT
  rw [if_neg e6] at e ⊢
  clear hr
  exact zone_go e q0 (fun v a1 a2 a3 a4 => zGo_ask hT (by omega) (zB_ask hB (by omega) ⟨a2, a3⟩))
theorem zGo_item {T : zT} {f : zS} {s : Int} (hB : zB f) (hT : zTz f) (s0 : 0 ≤ s) (e : (zitem T f s).1 = -1) : zGo f (zitem T f s).2.2 := by
  unfold zitem at e ⊢
  by_cases n : zfind T s 12 = 12
  · rw [if_pos n]
    exact zGo_refl hB hT
  rw [if_neg n] at e ⊢
  have l := zfind_l n
  by_cases r : zroomB f (zfind T s 12) = true
  · rw [if_neg (fun z => z r)] at e ⊢
    exact zGo_arg hB hT r l.1 (by omega) e
  · rw [if_pos r]
    exact zGo_refl hB hT
theorem zGo_way {T : zT} : ∀ (k : Nat) {f : zS} {s n : Int}, zB f → zTz f → 0 ≤ s → zGo f (zway T k f s n).2.2
  | 0, _, _, _, hB, hT, _ => zGo_refl hB hT
  | k + 1, f, s, n, hB, hT, s0 => by
    unfold zway
    by_cases e : (zitem T f s).1 = -1
    · rw [if_neg (fun z => z e)]
      have a := zGo_item hB hT s0 e
      have g := (zitem_g (T := T) hB s0).2 e
      split
      · exact a
      · split
        · exact zGo_refl hB hT
        · exact zGo_t a (zGo_way k a.1 a.2.1 (by omega))
    · rw [if_pos e]
      exact zGo_refl hB hT
theorem zGo_82 {h : zH} {f : zS} {s : Int} (hB : zB f) (hT : zTz f) : zGo f (zN82 h f s).2.1 := by
  unfold zN82
  split
  · exact zGo_refl hB hT
  · split
    · exact zGo_way 170 hB hT (Int.le_refl _)
    · exact zGo_refl hB hT
-- shelves that show people who are there
theorem zsh_le {h : zH} {a b : Int} (k : zsh h a) (l : a ≤ b) : zsh h b := fun j hj => (k j hj).elim Or.inl (fun z => Or.inr ⟨z.1, by omega⟩)
theorem zsh_put {h : zH} {a : Int} {s : Nat} {x : zHe} (k : zsh h a) (hx : x.1 < 100 → x.1 = -1 ∨ (0 ≤ x.1 ∧ x.1 < a)) : zsh (zput h s x) a := fun j => by
  unfold zput
  by_cases e : j = s
  · rw [if_pos e]
    exact hx
  · rw [if_neg e]
    exact k j
theorem zsh_68 {h : zH} {a s o n : Int} (k : zsh h a) : zsh (zN68 h s o n).2 a := by
  unfold zN68
  by_cases e : zrowA s o n = 1
  · show zsh (if zrowA s o n = 1 then _ else _) a
    rw [if_pos e]
    refine zsh_put k (fun z => ?_)
    unfold zrowA at e
    split at e
    · exact absurd e (by decide)
    · split at e
      · exact absurd e (by decide)
      · split at e
        · exact absurd e (by decide)
        · rename_i g
          replace z : 100 + o < 100 := z
          omega
  · show zsh (if zrowA s o n = 1 then _ else _) a
    rw [if_neg e]
    exact k
theorem zsh_69 {h : zH} {a s i : Int} {x : Int64} (k : zsh h a) : zsh (zN69 h s i x).2 a := by
  unfold zN69
  split
  · exact k
  · split
    · exact k
    · split
      · exact k
      · exact zsh_put k (k s.toNat)
theorem zsh_70 {h : zH} {a p q i j n : Int} (k : zsh h a) : zsh (zN70 h p q i j n).2 a := by
  unfold zN70
  split
  · exact k
  · split
    · exact k
    · split
      · exact k
      · exact zsh_put k (k q.toNat)
theorem zsh_72 {h : zH} {a s p : Int} (k : zsh h a) : zsh (zN72 h a s p).2 a := by
  unfold zN72
  split
  · exact k
  · split
    · exact zsh_put k (fun _ => Or.inl rfl)
    · split
      · rename_i g
        exact zsh_put k (fun _ => Or.inr g)
      · exact k
theorem zsh_clr {h : zH} {a : Int} : zsh (zclr h a) a := fun j => by
  unfold zclr
  by_cases e : (h j).1 < 100 ∧ ¬ (0 ≤ (h j).1 ∧ (h j).1 < a)
  · rw [if_pos e]
    exact fun _ => Or.inl rfl
  · rw [if_neg e]
    intro z
    exact Or.inr (Decidable.byContradiction fun n => e ⟨z, n⟩)
end
section
/-! part 8f: what holds of both between calls: laid by wip/flat/w8f.py -/
def zIm (flag : Int) (g : zS) (im : Option zS) : Prop := (im = none → flag = 0) ∧ ∀ f, im = some f → ¬ flag = 0 ∧ g = f
def CS (f : zS) (h : zH) (im : Option zS) (ft : Int) (l : List Nat) (m : zf_Me) : Prop := JX m ∧ zv 2 3 8 m = f ∧ zhC m = h ∧ zIm (m.1 0 9).toInt (zv 9 10 15 m) im ∧ (m.1 0 10).toInt = ft ∧ zTC m l
def RS (f : zS) (h : zH) (im : Option zS) (ft : Int) (l : List Nat) (m : zf_Me) : Prop := (JM m ∧ zso m) ∧ zr m = f ∧ zhR m = h ∧ zIm (m.1 63 52).toInt (zA 80 0 m) im ∧ (m.1 63 13).toInt = ft ∧ zTR m l
def zG (f : zS) (h : zH) (im : Option zS) : Prop := zTz f ∧ zsh h (f 5 6) ∧ ∀ g, im = some g → zTz g ∧ zB g
def zJ (m : zf_Me) : Prop := ∃ f h im ft l, CS f h im ft l m ∧ RS f h im ft l m ∧ zG f h im
theorem JM_c {m m' : zf_Me} (hJ : JM m) (h : zfc m m') : JM m' := by
  have e : ∀ a, 63 ≤ a → m'.1 a = m.1 a := fun a ha => (h a ha).1
  refine ⟨?_, ?_, ?_, ?_⟩
  · rw [show zr m' = zr m from zr_fr (fun k _ => by rw [e 63 (by decide)]) (fun a _ _ => e a (by omega))]
    exact hJ.1
  · unfold zsR
    rw [e 70 (by decide), e 72 (by decide), e 73 (by decide)]
    exact hJ.2.1
  · unfold zkp
    rw [e 63 (by decide), show zA 80 0 m' = zA 80 0 m from zL_ext (fun i _ => by rw [e 80 (by decide)])]
    exact hJ.2.2.1
  · unfold zwd
    rw [e 76 (by decide), e 77 (by decide)]
    exact hJ.2.2.2
theorem JX_d {m m' : zf_Me} (hJ : JX m) (h : zfd m m') : JX m' := by
  have e : ∀ a, a < 63 → m'.1 a = m.1 a := fun a ha => (h a ha).1
  refine ⟨?_, ?_, fun j hj => ?_⟩
  · rw [show zv 2 3 8 m' = zv 2 3 8 m from zv_fr (e _ (by omega)) (fun a _ _ => e a (by omega)) (e _ (by omega))]
    exact hJ.1
  · rw [show zv 9 10 15 m' = zv 9 10 15 m from zv_fr (e _ (by omega)) (fun a _ _ => e a (by omega)) (e _ (by omega))]
    exact hJ.2.1
  · rw [e _ (by omega)]
    exact hJ.2.2 j hj
theorem zG_w {f g : zS} {h : zH} {im : Option zS} (k : zG f h im) (o : zGo f g) : zG g h im := ⟨o.2.1, zsh_le k.2.1 o.2.2, k.2.2⟩
theorem zG_s {f : zS} {h h' : zH} {im : Option zS} (k : zG f h im) (o : zsh h' (f 5 6)) : zG f h' im := ⟨k.1, o, k.2.2⟩
section
variable {m m' : zf_Me} {f g : zS} {h h' : zH} {im : Option zS} {ft : Int} {l : List Nat}
theorem CS_B (c : CS f h im ft l m) : zB f := by
  rw [← c.2.1]
  exact c.1.1
theorem zTC_of (t : zTC m l) (e1 : m'.1 44 = m.1 44) (e2 : m'.1 45 = m.1 45) : zTC m' l := by
  unfold zTC
  rw [e1, e2]
  exact t
theorem CS_d (c : CS f h im ft l m) (F : zfd m m') : CS f h im ft l m' := by
  have e : ∀ a, a < 63 → m'.1 a = m.1 a := fun a ha => (F a ha).1
  obtain ⟨j, ef, eh, ei, et, tr⟩ := c
  refine ⟨JX_d j F, ?_, ?_, ?_, ?_, zTC_of tr (e 44 (by decide)) (e 45 (by decide))⟩
  · rw [show zv 2 3 8 m' = zv 2 3 8 m from zv_fr (e _ (by omega)) (fun a _ _ => e a (by omega)) (e _ (by omega))]
    exact ef
  · rw [zhC_id (fun a a1 a2 => F a (by omega))]
    exact eh
  · rw [show zv 9 10 15 m' = zv 9 10 15 m from zv_fr (e _ (by omega)) (fun a _ _ => e a (by omega)) (e _ (by omega)), e 0 (by decide)]
    exact ei
  · rw [e 0 (by decide)]
    exact et
theorem CS_q (c : CS f h im ft l m) (F : zq m m') : CS f h im ft l m' := by
  obtain ⟨j, ef, eh, ei, et, tr⟩ := c
  refine ⟨JX_q j F, by rw [zq_now F]; exact ef, by rw [zhC_q F]; exact eh, ?_, ?_, zTC_of tr (F.1 44 (by omega)) (F.1 45 (by omega))⟩
  · rw [zv_of F (w := 9) (y := 10) (r := 15) (by omega) (fun a _ _ => by omega) (by omega), F.1 0 (by omega)]
    exact ei
  · rw [F.1 0 (by omega)]
    exact et
theorem CS_w (c : CS f h im ft l m) (F : zw m m') (z : zv 2 3 8 m' = g) (b : zB g) : CS g h im ft l m' := by
  obtain ⟨j, ef, eh, ei, et, tr⟩ := c
  refine ⟨JX_now j (zfr_mono F (fun a ha => by omega)) (by rw [z]; exact b), z, by rw [zhC_w F]; exact eh, ?_, ?_, zTC_of tr (F.1 44 (by omega)) (F.1 45 (by omega))⟩
  · rw [zv_of F (w := 9) (y := 10) (r := 15) (by omega) (fun a _ _ => by omega) (by omega), F.1 0 (by omega)]
    exact ei
  · rw [F.1 0 (by omega)]
    exact et
theorem CS_S (c : CS f h im ft l m) (F : zq m m' ∨ zfS m m' ∧ zsz m') (z : zhC m' = h') : CS f h' im ft l m' := by
  rcases F with F | F
  · obtain ⟨j, ef, eh, k⟩ := CS_q c F
    exact ⟨j, ef, z, k⟩
  · obtain ⟨j, ef, eh, ei, et, tr⟩ := c
    obtain ⟨F, hs⟩ := F
    refine ⟨JX_S j F hs, ?_, z, ?_, ?_, zTC_of tr (F.1 44 (by omega)) (F.1 45 (by omega))⟩
    · rw [show zv 2 3 8 m' = zv 2 3 8 m from zv_fr (F.1 _ (by omega)) (fun a _ _ => F.1 _ (by omega)) (F.1 _ (by omega))]
      exact ef
    · rw [show zv 9 10 15 m' = zv 9 10 15 m from zv_fr (F.1 _ (by omega)) (fun a _ _ => F.1 _ (by omega)) (F.1 _ (by omega)), F.1 0 (by omega)]
      exact ei
    · rw [F.1 0 (by omega)]
      exact et
theorem zfc_S (F : zq m m' ∨ zfS m m' ∧ zsz m') : zfc m m' := F.elim zfc_q (fun F => zfS_c F.1)
theorem zfc_w (F : zw m m') : zfc m m' := zfc_of F (fun a ha => by omega)
theorem RS_B (c : RS f h im ft l m) : zB f := by
  rw [← c.2.1]
  exact c.1.1.1
theorem zTR_of (t : zTR m l) (e1 : m'.1 63 51 = m.1 63 51) (e2 : ∀ i, m'.1 85 i = m.1 85 i) : zTR m' l := ⟨by rw [e1]; exact t.1, fun i i1 i2 => by rw [e2]; exact t.2 i i1 i2⟩
theorem RS_c (c : RS f h im ft l m) (F : zfc m m') : RS f h im ft l m' := by
  have e : ∀ a, 63 ≤ a → m'.1 a = m.1 a := fun a ha => (F a ha).1
  obtain ⟨⟨j, o⟩, ef, eh, ei, et, tr⟩ := c
  refine ⟨⟨JM_c j F, ?_⟩, ?_, ?_, ?_, ?_, zTR_of tr (by rw [e 63 (by decide)]) (fun i => by rw [e 85 (by decide)])⟩
  · unfold zso
    rw [e 70 (by decide), e 71 (by decide)]
    exact o
  · rw [show zr m' = zr m from zr_fr (fun k _ => by rw [e 63 (by decide)]) (fun a _ _ => e a (by omega))]
    exact ef
  · rw [← eh]
    funext x
    unfold zhR
    rw [e 70 (by decide), e 71 (by decide), e 72 (by decide), e 73 (by decide), (F 74 (by decide)).2]
  · rw [show zA 80 0 m' = zA 80 0 m from zL_ext (fun i _ => by rw [e 80 (by decide)]), e 63 (by decide)]
    exact ei
  · rw [e 63 (by decide)]
    exact et
theorem zso_g {P : Nat → Nat → Prop} (o : zso m) (F : zgr' P m m') (hp : ∀ a k, P a k → ¬ a = 70 ∧ ¬ a = 71) : zso m' := fun j hj => by
  rw [F.1 70 j (fun z => (hp _ _ z).1 rfl), F.1 71 j (fun z => (hp _ _ z).2 rfl)]
  exact o j hj
theorem RS_w (c : RS f h im ft l m) (F : zgQ m m') (z : zr m' = g) (b : zB g) : RS g h im ft l m' := by
  obtain ⟨⟨j, o⟩, ef, eh, ei, et, tr⟩ := c
  refine ⟨⟨JM_q j F (by rw [z]; exact b), zso_g o F (fun a k z => by omega)⟩, z, by rw [zhR_q F]; exact eh, ?_, ?_, zTR_of tr (F.1 63 51 (by omega)) (fun i => F.1 85 i (by omega))⟩
  · rw [zA_of F (fun k => by omega), F.1 63 52 (by omega)]
    exact ei
  · rw [F.1 63 13 (by omega)]
    exact et
theorem RS_q (c : RS f h im ft l m) (F : zgQ m m') (z : zr m' = zr m) : RS f h im ft l m' := RS_w c F (z.trans c.2.1) (RS_B c)
theorem RS_S (c : RS f h im ft l m) (F : zgQ m m' ∧ zr m' = zr m ∨ zgH m m' ∧ zsR m' ∧ zso m') (z : zhR m' = h') : RS f h' im ft l m' := by
  rcases F with F | F
  · obtain ⟨j, ef, eh, k⟩ := RS_q c F.1 F.2
    exact ⟨j, ef, z, k⟩
  · obtain ⟨⟨j, o⟩, ef, eh, ei, et, tr⟩ := c
    obtain ⟨F, hs, ho⟩ := F
    have e : ∀ a, ¬ (70 ≤ a ∧ a ≤ 73) → m'.1 a = m.1 a := F.1
    refine ⟨⟨JM_s j F.1 hs, ho⟩, ?_, z, ?_, ?_, zTR_of tr (by rw [e 63 (by decide)]) (fun i => by rw [e 85 (by decide)])⟩
    · rw [show zr m' = zr m from zr_fr (fun k _ => by rw [e 63 (by decide)]) (fun a _ _ => e a (by omega))]
      exact ef
    · rw [show zA 80 0 m' = zA 80 0 m from zL_ext (fun i _ => by rw [e 80 (by decide)]), e 63 (by decide)]
      exact ei
    · rw [e 63 (by decide)]
      exact et
theorem zfd_S (F : zgQ m m' ∧ zr m' = zr m ∨ zgH m m' ∧ zsR m' ∧ zso m') : zfd m m' := F.elim (fun F => zfd_q F.1) (fun F a ha => ⟨F.1.1 a (by omega), F.1.2 a ha⟩)
theorem zG_175 (hJ : JM m) {n w : Int32} {Q : Int32 → zf_Me → Prop} (K : ∀ (v : Int32) (m' : zf_Me), zgQ m m' → zr m' = zr m → Q v m') : wp_175 n w m Q := by
  have R : ∀ {w : Int32}, (-8 < w.toInt ∧ w.toInt ≤ 0) → wp_125 w m Q := fun hw => zs_125 hw (fun m' f => K _ m' (zg64_q f) (zg64_r f))
  refine ⟨fun _ => R (by decide), fun gw => ⟨fun gw6 => ⟨fun _ => R (by decide), fun g1 => ⟨fun g4 m5 q5 => ?_, fun _ => R (by decide)⟩⟩, fun _ => R (by decide)⟩⟩
  have z5 : zr m5 = zr m := by rw [q5, zrk_44 (by decide)]
  have b5 : zB (zr m5) := by rw [z5]; exact hJ.1
  have f5 : zgS 0 m m5 := by
    rw [q5]
    exact zgS_u zgr_refl (by omega)
  refine zs_170 b5 (fun x7 _ => ⟨6, Nat.le_refl _, zs_174 6 ⟨by decide, by show (0 : Int) ≤ _; omega⟩ g4 (by show n.toInt - 0 < _; omega) b5 (fun m10 f10 z10 => ?_)⟩)
  have F : zgQ m m10 := zgr_mono (zgS_t f5 f10) (fun a k z => by omega)
  have Z : zr m10 = zr m := z10.trans z5
  have K0 : ∀ v, Q v m10 := fun v => K v m10 F Z
  exact ⟨fun _ => ⟨fun _ => ⟨fun _ => ⟨fun _ => K0 _, fun _ => K0 _⟩, fun _ => K0 _⟩, fun _ => ⟨fun _ => zs_125 (by decide) (fun m' f => K _ m' (zgr_trans F (zg64_q f)) ((zg64_r f).trans Z)), fun _ => ⟨by omega, K0 _⟩⟩⟩, fun _ => K0 _⟩
end
end
section
/-! part 8g: each pair of calls keeps the relation, and answers alike: laid by wip/flat/w8f.py -/
section
variable {m : zf_Me}
theorem zz_75 (hz : zJ m) {a0 : Int32} {a1 : Int32} {Q : Int32 → Int32 → zf_Me → Prop} (K : ∀ x z m2, x = z → zJ m2 → Q x z m2) : wp_75 a0 a1 m (fun x m1 => wp_142 a0 a1 m1 (fun z m2 => Q x z m2)) := by
  obtain ⟨f, h, im, ft, l, c, r, g⟩ := hz
  have o := zGo_75 (s := a0.toInt) (t := a1.toInt) (CS_B c) g.1
  refine zX_75 c.1 (fun x m1 F1 e1 z1 => ?_)
  rw [c.2.1] at e1 z1
  have r1 := RS_c r (zfc_w F1)
  refine zY_142 r1.1.1 (fun z m2 F2 e2 z2 => ?_)
  rw [r1.2.1] at e2 z2
  exact K x z m2 (zi_inj (e1.trans e2.symm)) ⟨_, h, im, ft, l, CS_d (CS_w c F1 z1 o.1) (zfd_q F2), RS_w r1 F2 z2 o.1, zG_w g o⟩
theorem zz_76 (hz : zJ m) {a0 : Int32} {a1 : Int32} {Q : Int32 → Int32 → zf_Me → Prop} (K : ∀ x z m2, x = z → zJ m2 → Q x z m2) : wp_76 a0 a1 m (fun x m1 => wp_143 a0 a1 m1 (fun z m2 => Q x z m2)) := by
  obtain ⟨f, h, im, ft, l, c, r, g⟩ := hz
  have o := zGo_76 (s := a0.toInt) (t := a1.toInt) (CS_B c) g.1
  refine zX_76 c.1 (fun x m1 F1 e1 z1 => ?_)
  rw [c.2.1] at e1 z1
  have r1 := RS_c r (zfc_w F1)
  refine zY_143 r1.1.1 (fun z m2 F2 e2 z2 => ?_)
  rw [r1.2.1] at e2 z2
  exact K x z m2 (zi_inj (e1.trans e2.symm)) ⟨_, h, im, ft, l, CS_d (CS_w c F1 z1 o.1) (zfd_q F2), RS_w r1 F2 z2 o.1, zG_w g o⟩
theorem zz_79 (hz : zJ m) {a0 : Int32} {a1 : Int32} {Q : Int32 → Int32 → zf_Me → Prop} (K : ∀ x z m2, x = z → zJ m2 → Q x z m2) : wp_79 a0 a1 m (fun x m1 => wp_150 a0 a1 m1 (fun z m2 => Q x z m2)) := by
  obtain ⟨f, h, im, ft, l, c, r, g⟩ := hz
  have o := zGo_79 (w := a0.toInt) (v := a1.toInt) (CS_B c) g.1
  refine zX_79 c.1 (fun x m1 F1 e1 z1 => ?_)
  rw [c.2.1] at e1 z1
  have r1 := RS_c r (zfc_w F1)
  refine zY_150  (fun z m2 F2 e2 z2 => ?_)
  rw [r1.2.1] at e2 z2
  exact K x z m2 (zi_inj (e1.trans e2.symm)) ⟨_, h, im, ft, l, CS_d (CS_w c F1 z1 o.1) (zfd_q F2), RS_w r1 F2 z2 o.1, zG_w g o⟩
theorem zz_80 (hz : zJ m) {a0 : Int32} {a1 : Int32} {Q : Int32 → Int32 → zf_Me → Prop} (K : ∀ x z m2, x = z → zJ m2 → Q x z m2) : wp_80 a0 a1 m (fun x m1 => wp_151 a0 a1 m1 (fun z m2 => Q x z m2)) := by
  obtain ⟨f, h, im, ft, l, c, r, g⟩ := hz
  have o := zGo_80 (p := a0.toInt) (v := a1.toInt) (CS_B c) g.1
  refine zX_80 c.1 (fun x m1 F1 e1 z1 => ?_)
  rw [c.2.1] at e1 z1
  have r1 := RS_c r (zfc_w F1)
  refine zY_151 r1.1.1 (fun z m2 F2 e2 z2 => ?_)
  rw [r1.2.1] at e2 z2
  exact K x z m2 (zi_inj (e1.trans e2.symm)) ⟨_, h, im, ft, l, CS_d (CS_w c F1 z1 o.1) (zfd_q F2), RS_w r1 F2 z2 o.1, zG_w g o⟩
theorem zz_81 (hz : zJ m) {a0 : Int32} {Q : Int32 → Int32 → zf_Me → Prop} (K : ∀ x z m2, x = z → zJ m2 → Q x z m2) : wp_81 a0 m (fun x m1 => wp_152 a0 m1 (fun z m2 => Q x z m2)) := by
  obtain ⟨f, h, im, ft, l, c, r, g⟩ := hz
  have o := zGo_81 (p := a0.toInt) (CS_B c) g.1
  refine zX_81 c.1 (fun x m1 F1 e1 z1 => ?_)
  rw [c.2.1] at e1 z1
  have r1 := RS_c r (zfc_w F1)
  refine zY_152  (fun z m2 F2 e2 z2 => ?_)
  rw [r1.2.1] at e2 z2
  exact K x z m2 (zi_inj (e1.trans e2.symm)) ⟨_, h, im, ft, l, CS_d (CS_w c F1 z1 o.1) (zfd_q F2), RS_w r1 F2 z2 o.1, zG_w g o⟩
theorem zz_100 (hz : zJ m) {a0 : Int32} {Q : Int32 → Int32 → zf_Me → Prop} (K : ∀ x z m2, x = z → zJ m2 → Q x z m2) : wp_100 a0 m (fun x m1 => wp_197 a0 m1 (fun z m2 => Q x z m2)) := by
  obtain ⟨f, h, im, ft, l, c, r, g⟩ := hz
  have o := zGo_100 (a := a0.toInt) (CS_B c) g.1
  refine zX_100 c.1 (fun x m1 F1 e1 z1 => ?_)
  rw [c.2.1] at e1 z1
  have r1 := RS_c r (zfc_w F1)
  refine zY_197 r1.1.1 (fun z m2 F2 e2 z2 => ?_)
  rw [r1.2.1] at e2 z2
  exact K x z m2 (zi_inj (e1.trans e2.symm)) ⟨_, h, im, ft, l, CS_d (CS_w c F1 z1 o.1) (zfd_q F2), RS_w r1 F2 z2 o.1, zG_w g o⟩
theorem zz_101 (hz : zJ m) {a0 : Int32} {Q : Int32 → Int32 → zf_Me → Prop} (K : ∀ x z m2, x = z → zJ m2 → Q x z m2) : wp_101 a0 m (fun x m1 => wp_199 a0 m1 (fun z m2 => Q x z m2)) := by
  obtain ⟨f, h, im, ft, l, c, r, g⟩ := hz
  have o := zGo_101 (n := a0.toInt) (CS_B c) g.1
  refine zX_101 c.1 (fun x m1 F1 e1 z1 => ?_)
  rw [c.2.1] at e1 z1
  have r1 := RS_c r (zfc_w F1)
  refine zY_199 r1.1.1 (fun z m2 F2 e2 z2 => ?_)
  rw [r1.2.1] at e2 z2
  exact K x z m2 (zi_inj (e1.trans e2.symm)) ⟨_, h, im, ft, l, CS_d (CS_w c F1 z1 o.1) (zfd_q F2), RS_w r1 F2 z2 o.1, zG_w g o⟩
theorem zz_102 (hz : zJ m) {Q : Int32 → Int32 → zf_Me → Prop} (K : ∀ x z m2, x = z → zJ m2 → Q x z m2) : wp_102 m (fun x m1 => wp_200 m1 (fun z m2 => Q x z m2)) := by
  obtain ⟨f, h, im, ft, l, c, r, g⟩ := hz
  have o := zGo_102 (CS_B c) g.1
  refine zX_102 c.1 (fun x m1 F1 e1 z1 => ?_)
  rw [c.2.1] at e1 z1
  have r1 := RS_c r (zfc_w F1)
  refine zY_200 r1.1.1 (by rw [r1.2.1]; exact g.1) (fun z m2 F2 e2 z2 => ?_)
  rw [r1.2.1] at e2 z2
  exact K x z m2 (zi_inj (e1.trans e2.symm)) ⟨_, h, im, ft, l, CS_d (CS_w c F1 z1 o.1) (zfd_q F2), RS_w r1 F2 z2 o.1, zG_w g o⟩
theorem zz_103 (hz : zJ m) {a0 : Int32} {Q : Int32 → Int32 → zf_Me → Prop} (K : ∀ x z m2, x = z → zJ m2 → Q x z m2) : wp_103 a0 m (fun x m1 => wp_201 a0 m1 (fun z m2 => Q x z m2)) := by
  obtain ⟨f, h, im, ft, l, c, r, g⟩ := hz
  have o := zGo_103 (v := a0) (CS_B c) g.1
  refine zX_103  (fun x m1 F1 e1 z1 => ?_)
  rw [c.2.1] at e1 z1
  have r1 := RS_c r (zfc_w F1)
  refine zY_201  (fun z m2 F2 e2 z2 => ?_)
  rw [r1.2.1] at e2 z2
  exact K x z m2 (zi_inj (e1.trans e2.symm)) ⟨_, h, im, ft, l, CS_d (CS_w c F1 z1 o.1) (zfd_q F2), RS_w r1 F2 z2 o.1, zG_w g o⟩
theorem zz_96 (hz : zJ m) {a0 : Int32} {a1 : Int32} {Q : Int32 → Int32 → zf_Me → Prop} (K : ∀ x z m2, x = z → zJ m2 → Q x z m2) : wp_96 a0 a1 m (fun x m1 => wp_193 a0 a1 m1 (fun z m2 => Q x z m2)) := by
  obtain ⟨f, h, im, ft, l, c, r, g⟩ := hz
  have o := zGo_96 (h := h) (s := a0.toInt) (n := a1.toInt) (CS_B c) g.1
  refine zX_96 c.1 (fun x m1 F1 e1 z1 => ?_)
  rw [c.2.1, c.2.2.1] at e1 z1
  have r1 := RS_c r (zfc_w F1)
  refine zY_193 r1.1.1 r1.1.2 (fun z m2 F2 e2 z2 => ?_)
  rw [r1.2.1, r1.2.2.1] at e2 z2
  exact K x z m2 (zi_inj (e1.trans e2.symm)) ⟨_, h, im, ft, l, CS_d (CS_w c F1 z1 o.1) (zfd_q F2), RS_w r1 F2 z2 o.1, zG_w g o⟩
theorem zz_68 (hz : zJ m) {a0 : Int32} {a1 : Int32} {a2 : Int32} {Q : Int32 → Int32 → zf_Me → Prop} (K : ∀ x z m2, x = z → zJ m2 → Q x z m2) : wp_68 a0 a1 a2 m (fun x m1 => wp_130 a0 a1 a2 m1 (fun z m2 => Q x z m2)) := by
  obtain ⟨f, h, im, ft, l, c, r, g⟩ := hz
  refine zX_68 c.1 (fun x m1 F1 e1 z1 => ?_)
  rw [c.2.2.1] at e1 z1
  have r1 := RS_c r (zfc_S F1)
  refine zY_130 r1.1.1 r1.1.2 (fun z m2 F2 e2 z2 => ?_)
  rw [r1.2.2.1] at e2 z2
  exact K x z m2 (zi_inj (e1.trans e2.symm)) ⟨f, _, im, ft, l, CS_d (CS_S c F1 z1) (zfd_S F2), RS_S r1 F2 z2, zG_s g (zsh_68 g.2.1)⟩
theorem zz_69 (hz : zJ m) {a0 : Int32} {a1 : Int32} {a2 : Int64} {Q : Int32 → Int32 → zf_Me → Prop} (K : ∀ x z m2, x = z → zJ m2 → Q x z m2) : wp_69 a0 a1 a2 m (fun x m1 => wp_131 a0 a1 a2 m1 (fun z m2 => Q x z m2)) := by
  obtain ⟨f, h, im, ft, l, c, r, g⟩ := hz
  refine zX_69 c.1 (fun x m1 F1 e1 z1 => ?_)
  rw [c.2.2.1] at e1 z1
  have r1 := RS_c r (zfc_S F1)
  refine zY_131 r1.1.1 r1.1.2 (fun z m2 F2 e2 z2 => ?_)
  rw [r1.2.2.1] at e2 z2
  exact K x z m2 (zi_inj (e1.trans e2.symm)) ⟨f, _, im, ft, l, CS_d (CS_S c F1 z1) (zfd_S F2), RS_S r1 F2 z2, zG_s g (zsh_69 g.2.1)⟩
theorem zz_70 (hz : zJ m) {a0 : Int32} {a1 : Int32} {a2 : Int32} {a3 : Int32} {a4 : Int32} {Q : Int32 → Int32 → zf_Me → Prop} (K : ∀ x z m2, x = z → zJ m2 → Q x z m2) : wp_70 a0 a1 a2 a3 a4 m (fun x m1 => wp_132 a0 a1 a2 a3 a4 m1 (fun z m2 => Q x z m2)) := by
  obtain ⟨f, h, im, ft, l, c, r, g⟩ := hz
  refine zX_70 c.1 (fun x m1 F1 e1 z1 => ?_)
  rw [c.2.2.1] at e1 z1
  have r1 := RS_c r (zfc_S F1)
  refine zY_132 r1.1.1 r1.1.2 (fun z m2 F2 e2 z2 => ?_)
  rw [r1.2.2.1] at e2 z2
  exact K x z m2 (zi_inj (e1.trans e2.symm)) ⟨f, _, im, ft, l, CS_d (CS_S c F1 z1) (zfd_S F2), RS_S r1 F2 z2, zG_s g (zsh_70 g.2.1)⟩
theorem zz_72 (hz : zJ m) {a0 : Int32} {a1 : Int32} {Q : Int32 → Int32 → zf_Me → Prop} (K : ∀ x z m2, x = z → zJ m2 → Q x z m2) : wp_72 a0 a1 m (fun x m1 => wp_134 a0 a1 m1 (fun z m2 => Q x z m2)) := by
  obtain ⟨f, h, im, ft, l, c, r, g⟩ := hz
  refine zX_72 c.1 (fun x m1 F1 e1 z1 => ?_)
  rw [c.2.2.1, c.2.1] at e1 z1
  have r1 := RS_c r (zfc_S F1)
  refine zY_134 r1.1.1 r1.1.2 (fun z m2 F2 e2 z2 => ?_)
  rw [r1.2.2.1, r1.2.1] at e2 z2
  exact K x z m2 (zi_inj (e1.trans e2.symm)) ⟨f, _, im, ft, l, CS_d (CS_S c F1 z1) (zfd_S F2), RS_S r1 F2 z2, zG_s g (zsh_72 g.2.1)⟩
theorem zz_74 (hz : zJ m) {a0 : Int32} {a1 : Int32} {Q : Int32 → Int32 → zf_Me → Prop} (K : ∀ x z m2, x = z → zJ m2 → Q x z m2) : wp_74 a0 a1 m (fun x m1 => wp_136 a0 a1 m1 (fun z m2 => Q x z m2)) := by
  obtain ⟨f, h, im, ft, l, c, r, g⟩ := hz
  refine zA_74 c.1 (fun x m1 F1 e1 => ?_)
  rw [c.2.1, c.2.2.1] at e1
  have r1 := RS_c r (zfc_q F1)
  refine zG_136 r1.1.1 r1.1.2 (by rw [r1.2.2.1, r1.2.1]; exact g.2.1) (fun z m2 F2 z2 e2 => ?_)
  rw [r1.2.1, r1.2.2.1] at e2
  exact K x z m2 (zi_inj (e1.trans e2.symm)) ⟨f, h, im, ft, l, CS_d (CS_q c F1) (zfd_q F2), RS_q r1 F2 z2, g⟩
theorem zz_77 (hz : zJ m) {a0 : Int32} {a1 : Int32} {Q : Int32 → Int32 → zf_Me → Prop} (K : ∀ x z m2, x = z → zJ m2 → Q x z m2) : wp_77 a0 a1 m (fun x m1 => wp_144 a0 a1 m1 (fun z m2 => Q x z m2)) := by
  obtain ⟨f, h, im, ft, l, c, r, g⟩ := hz
  refine zA_77 c.1 (fun x m1 F1 e1 => ?_)
  rw [c.2.1] at e1
  have r1 := RS_c r (zfc_q F1)
  refine zG_144 r1.1.1 (fun z m2 F2 z2 e2 => ?_)
  rw [r1.2.1] at e2
  exact K x z m2 (zi_inj (e1.trans e2.symm)) ⟨f, h, im, ft, l, CS_d (CS_q c F1) (zfd_q F2), RS_q r1 F2 z2, g⟩
theorem zz_78 (hz : zJ m) {a0 : Int32} {a1 : Int32} {Q : Int32 → Int32 → zf_Me → Prop} (K : ∀ x z m2, x = z → zJ m2 → Q x z m2) : wp_78 a0 a1 m (fun x m1 => wp_145 a0 a1 m1 (fun z m2 => Q x z m2)) := by
  obtain ⟨f, h, im, ft, l, c, r, g⟩ := hz
  refine zA_78 c.1 (fun x m1 F1 e1 => ?_)
  rw [c.2.1] at e1
  have r1 := RS_c r (zfc_q F1)
  refine zG_145 r1.1.1 (fun z m2 F2 z2 e2 => ?_)
  rw [r1.2.1] at e2
  exact K x z m2 (zi_inj (e1.trans e2.symm)) ⟨f, h, im, ft, l, CS_d (CS_q c F1) (zfd_q F2), RS_q r1 F2 z2, g⟩
theorem zz_84 (hz : zJ m) {a0 : Int32} {a1 : Int32} {Q : Int32 → Int32 → zf_Me → Prop} (K : ∀ x z m2, x = z → zJ m2 → Q x z m2) : wp_84 a0 a1 m (fun x m1 => wp_171 a0 a1 m1 (fun z m2 => Q x z m2)) := by
  obtain ⟨f, h, im, ft, l, c, r, g⟩ := hz
  refine zA_84 c.1 (fun x m1 F1 e1 => ?_)
  rw [c.2.1] at e1
  have r1 := RS_c r (zfc_q F1)
  refine zG_171 r1.1.1 (fun z m2 F2 z2 e2 => ?_)
  rw [r1.2.1] at e2
  exact K x z m2 (zi_inj (e1.trans e2.symm)) ⟨f, h, im, ft, l, CS_d (CS_q c F1) (zfd_q F2), RS_q r1 F2 z2, g⟩
theorem zz_85 (hz : zJ m) {a0 : Int32} {Q : Int32 → Int32 → zf_Me → Prop} (K : ∀ x z m2, x = z → zJ m2 → Q x z m2) : wp_85 a0 m (fun x m1 => wp_172 a0 m1 (fun z m2 => Q x z m2)) := by
  obtain ⟨f, h, im, ft, l, c, r, g⟩ := hz
  refine zA_85 c.1 (fun x m1 F1 e1 => ?_)
  rw [c.2.1] at e1
  have r1 := RS_c r (zfc_q F1)
  refine zG_172 r1.1.1 (fun z m2 F2 z2 e2 => ?_)
  rw [r1.2.1] at e2
  exact K x z m2 (zi_inj (e1.trans e2.symm)) ⟨f, h, im, ft, l, CS_d (CS_q c F1) (zfd_q F2), RS_q r1 F2 z2, g⟩
theorem zz_88 (hz : zJ m) {a0 : Int32} {a1 : Int32} {Q : Int32 → Int32 → zf_Me → Prop} (K : ∀ x z m2, x = z → zJ m2 → Q x z m2) : wp_88 a0 a1 m (fun x m1 => wp_183 a0 a1 m1 (fun z m2 => Q x z m2)) := by
  obtain ⟨f, h, im, ft, l, c, r, g⟩ := hz
  refine zA_88 c.1 (fun x m1 F1 e1 => ?_)
  rw [c.2.1] at e1
  have r1 := RS_c r (zfc_q F1)
  refine zG_183 r1.1.1 (fun z m2 F2 z2 e2 => ?_)
  rw [r1.2.1] at e2
  exact K x z m2 (zi_inj (e1.trans e2.symm)) ⟨f, h, im, ft, l, CS_d (CS_q c F1) (zfd_q F2), RS_q r1 F2 z2, g⟩
theorem zz_89 (hz : zJ m) {a0 : Int32} {Q : Int32 → Int32 → zf_Me → Prop} (K : ∀ x z m2, x = z → zJ m2 → Q x z m2) : wp_89 a0 m (fun x m1 => wp_184 a0 m1 (fun z m2 => Q x z m2)) := by
  obtain ⟨f, h, im, ft, l, c, r, g⟩ := hz
  refine zA_89 c.1 (fun x m1 F1 e1 => ?_)
  rw [c.2.1] at e1
  have r1 := RS_c r (zfc_q F1)
  refine zG_184 r1.1.1 (fun z m2 F2 z2 e2 => ?_)
  rw [r1.2.1] at e2
  exact K x z m2 (zi_inj (e1.trans e2.symm)) ⟨f, h, im, ft, l, CS_d (CS_q c F1) (zfd_q F2), RS_q r1 F2 z2, g⟩
theorem zz_90 (hz : zJ m) {a0 : Int32} {Q : Int32 → Int32 → zf_Me → Prop} (K : ∀ x z m2, x = z → zJ m2 → Q x z m2) : wp_90 a0 m (fun x m1 => wp_185 a0 m1 (fun z m2 => Q x z m2)) := by
  obtain ⟨f, h, im, ft, l, c, r, g⟩ := hz
  refine zA_90 c.1 (fun x m1 F1 e1 => ?_)
  rw [c.2.1] at e1
  have r1 := RS_c r (zfc_q F1)
  refine zG_185 r1.1.1 (fun z m2 F2 z2 e2 => ?_)
  rw [r1.2.1] at e2
  exact K x z m2 (zi_inj (e1.trans e2.symm)) ⟨f, h, im, ft, l, CS_d (CS_q c F1) (zfd_q F2), RS_q r1 F2 z2, g⟩
theorem zz_92 (hz : zJ m) {a0 : Int32} {Q : Int32 → Int32 → zf_Me → Prop} (K : ∀ x z m2, x = z → zJ m2 → Q x z m2) : wp_92 a0 m (fun x m1 => wp_187 a0 m1 (fun z m2 => Q x z m2)) := by
  obtain ⟨f, h, im, ft, l, c, r, g⟩ := hz
  refine zA_92 c.1 (fun x m1 F1 e1 => ?_)
  rw [c.2.1] at e1
  have r1 := RS_c r (zfc_q F1)
  refine zG_187 r1.1.1 (fun z m2 F2 z2 e2 => ?_)
  rw [r1.2.1] at e2
  exact K x z m2 (zi_inj (e1.trans e2.symm)) ⟨f, h, im, ft, l, CS_d (CS_q c F1) (zfd_q F2), RS_q r1 F2 z2, g⟩
theorem zz_93 (hz : zJ m) {a0 : Int32} {Q : Int32 → Int32 → zf_Me → Prop} (K : ∀ x z m2, x = z → zJ m2 → Q x z m2) : wp_93 a0 m (fun x m1 => wp_188 a0 m1 (fun z m2 => Q x z m2)) := by
  obtain ⟨f, h, im, ft, l, c, r, g⟩ := hz
  refine zA_93 c.1 (fun x m1 F1 e1 => ?_)
  rw [c.2.1] at e1
  have r1 := RS_c r (zfc_q F1)
  refine zG_188 r1.1.1 (fun z m2 F2 z2 e2 => ?_)
  rw [r1.2.1] at e2
  exact K x z m2 (zi_inj (e1.trans e2.symm)) ⟨f, h, im, ft, l, CS_d (CS_q c F1) (zfd_q F2), RS_q r1 F2 z2, g⟩
theorem zz_94 (hz : zJ m) {a0 : Int32} {a1 : Int32} {Q : Int32 → Int32 → zf_Me → Prop} (K : ∀ x z m2, x = z → zJ m2 → Q x z m2) : wp_94 a0 a1 m (fun x m1 => wp_191 a0 a1 m1 (fun z m2 => Q x z m2)) := by
  obtain ⟨f, h, im, ft, l, c, r, g⟩ := hz
  refine zA_94 c.1 (fun x m1 F1 e1 => ?_)
  rw [c.2.1, c.2.2.1] at e1
  have r1 := RS_c r (zfc_q F1)
  refine zG_191 r1.1.1 r1.1.2 (fun z m2 F2 z2 e2 => ?_)
  rw [r1.2.1, r1.2.2.1] at e2
  exact K x z m2 (zi_inj (e1.trans e2.symm)) ⟨f, h, im, ft, l, CS_d (CS_q c F1) (zfd_q F2), RS_q r1 F2 z2, g⟩
theorem zz_95 (hz : zJ m) {a0 : Int32} {a1 : Int32} {a2 : Int32} {Q : Int32 → Int32 → zf_Me → Prop} (K : ∀ x z m2, x = z → zJ m2 → Q x z m2) : wp_95 a0 a1 a2 m (fun x m1 => wp_192 a0 a1 a2 m1 (fun z m2 => Q x z m2)) := by
  obtain ⟨f, h, im, ft, l, c, r, g⟩ := hz
  refine zA_95 c.1 (fun x m1 F1 e1 => ?_)
  rw [c.2.1, c.2.2.1] at e1
  have r1 := RS_c r (zfc_q F1)
  refine zG_192 r1.1.1 r1.1.2 (fun z m2 F2 z2 e2 => ?_)
  rw [r1.2.1, r1.2.2.1] at e2
  exact K x z m2 (zi_inj (e1.trans e2.symm)) ⟨f, h, im, ft, l, CS_d (CS_q c F1) (zfd_q F2), RS_q r1 F2 z2, g⟩
theorem zz_97 (hz : zJ m) {a0 : Int32} {Q : Int32 → Int32 → zf_Me → Prop} (K : ∀ x z m2, x = z → zJ m2 → Q x z m2) : wp_97 a0 m (fun x m1 => wp_194 a0 m1 (fun z m2 => Q x z m2)) := by
  obtain ⟨f, h, im, ft, l, c, r, g⟩ := hz
  refine zA_97 c.1 (fun x m1 F1 e1 => ?_)
  rw [c.2.1, c.2.2.1] at e1
  have r1 := RS_c r (zfc_q F1)
  refine zG_194 r1.1.1 r1.1.2 (fun z m2 F2 z2 e2 => ?_)
  rw [r1.2.1, r1.2.2.1] at e2
  exact K x z m2 (zi_inj (e1.trans e2.symm)) ⟨f, h, im, ft, l, CS_d (CS_q c F1) (zfd_q F2), RS_q r1 F2 z2, g⟩
theorem zz_98 (hz : zJ m) {Q : Int32 → Int32 → zf_Me → Prop} (K : ∀ x z m2, x = z → zJ m2 → Q x z m2) : wp_98 m (fun x m1 => wp_195 m1 (fun z m2 => Q x z m2)) := by
  obtain ⟨f, h, im, ft, l, c, r, g⟩ := hz
  refine zA_98 c.1 (fun x m1 F1 e1 => ?_)
  rw [c.2.1] at e1
  have r1 := RS_c r (zfc_q F1)
  refine zG_195 r1.1.1 (fun z m2 F2 z2 e2 => ?_)
  rw [r1.2.1] at e2
  exact K x z m2 (zi_inj (e1.trans e2.symm)) ⟨f, h, im, ft, l, CS_d (CS_q c F1) (zfd_q F2), RS_q r1 F2 z2, g⟩
theorem zz_99 (hz : zJ m) {a0 : Int32} {Q : Int32 → Int32 → zf_Me → Prop} (K : ∀ x z m2, x = z → zJ m2 → Q x z m2) : wp_99 a0 m (fun x m1 => wp_196 a0 m1 (fun z m2 => Q x z m2)) := by
  obtain ⟨f, h, im, ft, l, c, r, g⟩ := hz
  refine zA_99 c.1 (fun x m1 F1 e1 => ?_)
  rw [c.2.1] at e1
  have r1 := RS_c r (zfc_q F1)
  refine zG_196 r1.1.1 (fun z m2 F2 z2 e2 => ?_)
  rw [r1.2.1] at e2
  exact K x z m2 (zi_inj (e1.trans e2.symm)) ⟨f, h, im, ft, l, CS_d (CS_q c F1) (zfd_q F2), RS_q r1 F2 z2, g⟩
theorem zz_71 (hz : zJ m) {a0 : Int32} {a1 : Int32} {Q : Int64 → Int64 → zf_Me → Prop} (K : ∀ x z m2, x = z → zJ m2 → Q x z m2) : wp_71 a0 a1 m (fun x m1 => wp_133 a0 a1 m1 (fun z m2 => Q x z m2)) := by
  obtain ⟨f, h, im, ft, l, c, r, g⟩ := hz
  refine zX_71 c.1 (zY_133 r.1.1 r.1.2 (K _ _ m ?_ ⟨f, h, im, ft, l, c, r, g⟩))
  rw [c.2.2.1, r.2.2.1]
theorem zz_73 (hz : zJ m) {a0 : Int32} {Q : Int32 → Int32 → zf_Me → Prop} (K : ∀ x z m2, x = z → zJ m2 → Q x z m2) : wp_73 a0 m (fun x m1 => wp_135 a0 m1 (fun z m2 => Q x z m2)) := by
  obtain ⟨f, h, im, ft, l, c, r, g⟩ := hz
  refine zX_73 (fun x e1 => zY_135 r.1.1 r.1.2 (fun z e2 => K x z m ?_ ⟨f, h, im, ft, l, c, r, g⟩))
  rw [c.2.2.1] at e1
  rw [r.2.2.1] at e2
  exact zi_inj (e1.trans e2.symm)
theorem zz_83 (hz : zJ m) {Q : Int32 → Int32 → zf_Me → Prop} (K : ∀ x z m2, x = z → zJ m2 → Q x z m2) : wp_83 m (fun x m1 => wp_163 m1 (fun z m2 => Q x z m2)) := by
  obtain ⟨f, h, im, ft, l, c, r, g⟩ := hz
  exact K _ _ m (zi_inj (c.2.2.2.2.1.trans r.2.2.2.2.1.symm)) ⟨f, h, im, ft, l, c, r, g⟩
theorem zz_86 (hz : zJ m) {Q : Int32 → Int32 → zf_Me → Prop} (K : ∀ x z m2, x = z → zJ m2 → Q x z m2) : wp_86 m (fun x m1 => wp_173 m1 (fun z m2 => Q x z m2)) := by
  obtain ⟨f, h, im, ft, l, c, r, g⟩ := hz
  refine zs_86 c.1.1 (zs_173 r.1.1.1 (K _ _ m ?_ ⟨f, h, im, ft, l, c, r, g⟩))
  rw [c.2.1, r.2.1]
theorem zz_105 (hz : zJ m) {a0 : Int32} {Q : Int32 → Int32 → zf_Me → Prop} (K : ∀ x z m2, x = z → zJ m2 → Q x z m2) : wp_105 a0 m (fun x m1 => wp_207 a0 m1 (fun z m2 => Q x z m2)) := by
  obtain ⟨f, h, im, ft, l, c, r, g⟩ := hz
  exact zA_105 c.2.2.2.2.2 (fun x e1 => zG_207 r.2.2.2.2.2 (fun z e2 => K x z m (zi_inj (e1.trans e2.symm)) ⟨f, h, im, ft, l, c, r, g⟩))
theorem zz_87 (hz : zJ m) {a0 : Int32} {a1 : Int32} {Q : Int32 → Int32 → zf_Me → Prop} (K : ∀ x z m2, zJ m2 → Q x z m2) : wp_87 a0 a1 m (fun x m1 => wp_175 a0 a1 m1 (fun z m2 => Q x z m2)) := by
  obtain ⟨f, h, im, ft, l, c, r, g⟩ := hz
  refine zX_87 c.1 (fun x m1 F1 => ?_)
  have r1 := RS_c r (zfc_q F1)
  exact zG_175 r1.1.1 (fun z m2 F2 z2 => K x z m2 ⟨f, h, im, ft, l, CS_d (CS_q c F1) (zfd_q F2), RS_q r1 F2 z2, g⟩)
theorem zz_91 (hz : zJ m) {a0 : Int32} {a1 : Int32} {Q : Int32 → Int32 → zf_Me → Prop} (K : ∀ x z m2, zJ m2 → Q x z m2) : wp_91 a0 a1 m (fun x m1 => wp_186 a0 a1 m1 (fun z m2 => Q x z m2)) := by
  obtain ⟨f, h, im, ft, l, c, r, g⟩ := hz
  refine zX_91 c.1 (fun x m1 F1 => ?_)
  have r1 := RS_c r (zfc_q F1)
  exact zG_186 r1.1.1 (fun z m2 F2 z2 => K x z m2 ⟨f, h, im, ft, l, CS_d (CS_q c F1) (zfd_q F2), RS_q r1 F2 z2, g⟩)
theorem zz_108 (hz : zJ m) {a0 : Int32} {Q : Int32 → Int32 → zf_Me → Prop} (K : ∀ x z m2, zJ m2 → Q x z m2) : wp_108 a0 m (fun x m1 => wp_210 a0 m1 (fun z m2 => Q x z m2)) := by
  obtain ⟨f, h, im, ft, l, c, r, g⟩ := hz
  exact zA_108 c.1 (fun x => zG_210 r.1.1 (fun z => K x z m ⟨f, h, im, ft, l, c, r, g⟩))
theorem zz_104 (hz : zJ m) {a0 : Int32} {a1 : Int32} {a2 : Int32} {Q : Int32 → Int32 → zf_Me → Prop} (K : ∀ x z m2, x = z → zJ m2 → Q x z m2) : wp_104 a0 a1 a2 m (fun x m1 => wp_206 a0 a1 a2 m1 (fun z m2 => Q x z m2)) := by
  obtain ⟨f, h, im, ft, l, c, r, g⟩ := hz
  refine zA_104 c.1 (fun m1 F1 t1 => ?_)
  have r1 := RS_c r (zfc_of F1 (fun a ha => by omega))
  refine zG_206 r1.1.1 (fun m2 F2 t2 => ?_)
  have c1 : CS f h im ft (zN104 (zv 2 3 8 m) a0 a1 a2).2 m1 := by
    obtain ⟨j, ef, eh, ei, et, tr⟩ := c
    have z1 : zv 2 3 8 m1 = zv 2 3 8 m := zv_of F1 (by omega) (fun a _ _ => by omega) (by omega)
    refine ⟨JX_now j (zfr_mono F1 (fun a ha => by omega)) (by rw [z1]; exact j.1), z1.trans ef, ?_, ?_, ?_, t1⟩
    · rw [zhC_id (fun a a1 a2 => ⟨F1.1 a (by omega), by rw [F1.2]⟩)]
      exact eh
    · rw [zv_of F1 (w := 9) (y := 10) (r := 15) (by omega) (fun a _ _ => by omega) (by omega), F1.1 0 (by omega)]
      exact ei
    · rw [F1.1 0 (by omega)]
      exact et
  have z2 : zr m2 = zr m1 := zr_of F2 (fun a k z => by omega)
  have fd : zfd m1 m2 := zfd_of F2 (fun a k z => by omega)
  have e : zN104 (zr m1) a0 a1 a2 = zN104 (zv 2 3 8 m) a0 a1 a2 := by rw [r1.2.1, c.2.1]
  rw [e] at t2 ⊢
  refine K _ _ m2 rfl ⟨f, h, im, ft, _, CS_d c1 fd, ?_, g⟩
  obtain ⟨⟨j, o⟩, ef, eh, ei, et, tr⟩ := r1
  refine ⟨⟨JM_b j (zgr_mono F2 (fun a k z => by omega)) (by rw [z2]; exact j.1), zso_g o F2 (fun a k z => by omega)⟩, z2.trans ef, ?_, ?_, ?_, t2⟩
  · rw [← eh]
    funext x
    unfold zhR
    rw [F2.1 70 x (by omega), F2.1 71 x (by omega), F2.1 72 x (by omega), F2.1 73 x (by omega), F2.2]
  · rw [zA_of F2 (fun k => by omega), F2.1 63 52 (by omega)]
    exact ei
  · rw [F2.1 63 13 (by omega)]
    exact et
theorem zz_82 (hz : zJ m) {a0 : Int32} {Q : Int32 → Int32 → zf_Me → Prop} (K : ∀ x z m2, x = z → zJ m2 → Q x z m2) : wp_82 a0 m (fun x m1 => wp_162 a0 m1 (fun z m2 => Q x z m2)) := by
  obtain ⟨f, h, im, ft, l, c, r, g⟩ := hz
  by_cases k : zK h a0.toInt = 0
  · refine zX_82 c.1 (fun n => absurd (by rw [c.2.2.1]; exact k) n) (fun _ x m1 F1 n9 e1 z1 t1 => ?_)
    rw [c.2.1, c.2.2.1] at e1 z1 t1
    have fc : zfc m m1 := zfc_of F1 (fun a ha => by omega)
    have r1 := RS_c r fc
    refine zY_162 r1.1.1 r1.1.2 (fun n => absurd (by rw [r1.2.2.1]; exact k) n) (fun _ z m2 F2 e2 z2 t2 => ?_)
    rw [r1.2.1, r1.2.2.1] at e2 z2 t2
    have o := zGo_82 (h := h) (s := a0.toInt) (CS_B c) g.1
    refine K x z m2 (zi_inj (e1.trans e2.symm)) ⟨(zN82 h f a0.toInt).2.1, h, im, (zN82 h f a0.toInt).2.2, l, CS_d ?_ (zfd_of F2 (fun a k z => by omega)), ?_, zG_w g o⟩
    · obtain ⟨j, ef, eh, ei, et, tr⟩ := c
      refine ⟨⟨by rw [z1]; exact o.1, ?_, fun i hi => ?_⟩, z1, ?_, ?_, t1, zTC_of tr (F1.1 44 (by omega)) (F1.1 45 (by omega))⟩
      · rw [zv_of F1 (w := 9) (y := 10) (r := 15) (by omega) (fun a _ _ => by omega) (by omega)]
        exact j.2.1
      · rw [F1.1 _ (by omega)]
        exact j.2.2 i hi
      · rw [zhC_id (fun a a1 a2 => ⟨F1.1 a (by omega), by rw [F1.2]⟩)]
        exact eh
      · rw [zv_of F1 (w := 9) (y := 10) (r := 15) (by omega) (fun a _ _ => by omega) (by omega), n9]
        exact ei
    · obtain ⟨⟨j, o1⟩, ef, eh, ei, et, tr⟩ := r1
      refine ⟨⟨JM_b j (zgr_mono F2 (fun a k z => by omega)) (by rw [z2]; exact o.1), zso_g o1 F2 (fun a k z => by omega)⟩, z2, ?_, ?_, t2, zTR_of tr (F2.1 63 51 (by omega)) (fun i => F2.1 85 i (by omega))⟩
      · rw [← eh]
        funext x
        unfold zhR
        rw [F2.1 70 x (by omega), F2.1 71 x (by omega), F2.1 72 x (by omega), F2.1 73 x (by omega), F2.2]
      · rw [zA_of F2 (fun k => by omega), F2.1 63 52 (by omega)]
        exact ei
  · refine zX_82 c.1 (fun _ x m1 F1 e1 => ?_) (fun n => absurd (by rw [c.2.2.1] at n; exact n) k)
    rw [c.2.2.1] at e1
    have r1 := RS_c r (zfc_q F1)
    refine zY_162 r1.1.1 r1.1.2 (fun _ z m2 F2 z2 e2 => ?_) (fun n => absurd (by rw [r1.2.2.1] at n; exact n) k)
    rw [r1.2.2.1] at e2
    exact K x z m2 (zi_inj (e1.trans e2.symm)) ⟨f, h, im, ft, l, CS_d (CS_q c F1) (zfd_q F2), RS_q r1 F2 z2, g⟩
theorem zz_106 (hz : zJ m) {Q : Int32 → Int32 → zf_Me → Prop} (K : ∀ x z m2, x = z → zJ m2 → Q x z m2) : wp_106 m (fun x m1 => wp_208 m1 (fun z m2 => Q x z m2)) := by
  obtain ⟨f, h, im, ft, l, c, r, g⟩ := hz
  refine zX_106 (fun x m1 F1 e1 i1 n9 n10 => ?_)
  have fc : zfc m m1 := zfc_of F1 (fun a ha => by omega)
  have r1 := RS_c r fc
  refine zY_208 (fun z m2 F2 e2 z2 i2 n52 => ?_)
  rw [c.2.1] at e1 i1
  rw [r1.2.1] at e2 z2 i2
  refine K x z m2 (zi_inj (e1.trans e2.symm)) ⟨f, h, some f, ft, l, CS_d ?_ (zfd_of F2 (fun a k z => by omega)), ?_, g.1, g.2.1, fun y hy => ?_⟩
  · obtain ⟨j, ef, eh, ei, et, tr⟩ := c
    have z1 : zv 2 3 8 m1 = zv 2 3 8 m := zv_of F1 (by omega) (fun a _ _ => by omega) (by omega)
    refine ⟨⟨by rw [z1]; exact j.1, by rw [i1, ← ef]; exact j.1, fun i hi => ?_⟩, z1.trans ef, ?_, ⟨fun z => (nomatch z), fun y hy => ⟨by rw [n9]; decide, i1.trans (Option.some.inj hy)⟩⟩, by rw [n10]; exact et, zTC_of tr (F1.1 44 (by omega)) (F1.1 45 (by omega))⟩
    · rw [F1.1 _ (by omega)]
      exact j.2.2 i hi
    · rw [zhC_id (fun a a1 a2 => ⟨F1.1 a (by omega), by rw [F1.2]⟩)]
      exact eh
  · obtain ⟨⟨j, o1⟩, ef, eh, ei, et, tr⟩ := r1
    have B : zB f := by rw [← ef]; exact j.1
    refine ⟨⟨⟨by rw [z2]; exact B, fun i hi => ?_, Or.inr (by rw [i2]; exact B), zwd_of F2 (fun a k z => by omega) j.2.2.2⟩, zso_g o1 F2 (fun a k z => by omega)⟩, z2, ?_, ⟨fun z => (nomatch z), fun y hy => ⟨by rw [n52]; decide, i2.trans (Option.some.inj hy)⟩⟩, by rw [F2.1 63 13 (by omega)]; exact et, zTR_of tr (F2.1 63 51 (by omega)) (fun i => F2.1 85 i (by omega))⟩
    · rw [F2.1 70 i (by omega), F2.1 72 i (by omega), F2.1 73 i (by omega)]
      exact j.2.1 i hi
    · rw [← eh]
      funext x
      unfold zhR
      rw [F2.1 70 x (by omega), F2.1 71 x (by omega), F2.1 72 x (by omega), F2.1 73 x (by omega), F2.2]
  · rw [← Option.some.inj hy]
    exact ⟨g.1, CS_B c⟩
theorem zz_107 (hz : zJ m) {Q : Int32 → Int32 → zf_Me → Prop} (K : ∀ x z m2, x = z → zJ m2 → Q x z m2) : wp_107 m (fun x m1 => wp_209 m1 (fun z m2 => Q x z m2)) := by
  obtain ⟨f, h, im, ft, l, c, r, g⟩ := hz
  cases im with
  | none =>
    have n9 := c.2.2.2.1.1 rfl
    refine zX_107 c.1 (fun _ x m1 F1 e1 => ?_) (fun n => absurd n9 n)
    have r1 := RS_c r (zfc_q F1)
    have n52 := r1.2.2.2.1.1 rfl
    exact zY_209 r1.1.1 r1.1.2 (fun _ z m2 F2 z2 e2 => K x z m2 (zi_inj (e1.trans e2.symm)) ⟨f, h, none, ft, l, CS_d (CS_q c F1) (zfd_q F2), RS_q r1 F2 z2, g⟩) (fun n => absurd n52 n)
  | some y =>
    have n9 := c.2.2.2.1.2 y rfl
    refine zX_107 c.1 (fun n => absurd n n9.1) (fun _ x m1 F1 hs e1 z1 h1 => ?_)
    rw [n9.2] at e1 z1 h1
    rw [c.2.2.1] at h1
    have fc : zfc m m1 := fun a ha => ⟨F1.1 a (by omega), by rw [F1.2]⟩
    have r1 := RS_c r fc
    have n52 := r1.2.2.2.1.2 y rfl
    refine zY_209 r1.1.1 r1.1.2 (fun n => absurd n n52.1) (fun _ z m2 F2 hR hO e2 z2 h2 => ?_)
    rw [n52.2] at e2 z2 h2
    rw [r1.2.2.1] at h2
    have gy := g.2.2 y rfl
    refine K x z m2 (zi_inj (e1.trans e2.symm)) ⟨y, zclr h (y 5 6), some y, ft, l, CS_d ?_ (fun a ha => ⟨by funext k; exact F2.1 a k (by omega), by rw [F2.2]⟩), ?_, gy.1, zsh_clr, g.2.2⟩
    · obtain ⟨j, ef, eh, ei, et, tr⟩ := c
      have i1 : zv 9 10 15 m1 = zv 9 10 15 m := zv_fr (F1.1 _ (by omega)) (fun a _ _ => F1.1 _ (by omega)) (F1.1 _ (by omega))
      refine ⟨⟨by rw [z1]; exact gy.2, by rw [i1]; exact j.2.1, hs⟩, z1, h1, ?_, ?_, zTC_of tr (F1.1 44 (by omega)) (F1.1 45 (by omega))⟩
      · rw [i1, F1.1 0 (by omega)]
        exact ei
      · rw [F1.1 0 (by omega)]
        exact et
    · obtain ⟨⟨j, o1⟩, ef, eh, ei, et, tr⟩ := r1
      have i2 : zA 80 0 m2 = zA 80 0 m1 := zL_ext (fun i _ => by rw [F2.1 80 _ (by omega)])
      refine ⟨⟨⟨by rw [z2]; exact gy.2, hR, ?_, ⟨fun k hk => by rw [F2.1 76 k (by omega)]; exact j.2.2.2.1 k hk, fun k hk => by rw [F2.1 77 k (by omega)]; exact j.2.2.2.2 k hk⟩⟩, hO⟩, z2, h2, ?_, ?_, zTR_of tr (F2.1 63 51 (by omega)) (fun i => F2.1 85 i (by omega))⟩
      · unfold zkp
        rw [i2, F2.1 63 52 (by omega)]
        exact j.2.2.1
      · rw [i2, F2.1 63 52 (by omega)]
        exact ei
      · rw [F2.1 63 13 (by omega)]
        exact et
end
end
