/-! part 58: the class: summers, the search ahead: laid by wip/flat/w58.py -/
def zbc (v0 : Int32) : Int32 := ((((((((v0 - ((((Int32.toUInt32 v0) >>> ((Int32.toUInt32 1) &&& Int32.toUInt32 31)).toInt32) &&& 1431655765)) &&& 858993459) + ((((Int32.toUInt32 (v0 - ((((Int32.toUInt32 v0) >>> ((Int32.toUInt32 1) &&& Int32.toUInt32 31)).toInt32) &&& 1431655765))) >>> ((Int32.toUInt32 2) &&& Int32.toUInt32 31)).toInt32) &&& 858993459)) + (((Int32.toUInt32 (((v0 - ((((Int32.toUInt32 v0) >>> ((Int32.toUInt32 1) &&& Int32.toUInt32 31)).toInt32) &&& 1431655765)) &&& 858993459) + ((((Int32.toUInt32 (v0 - ((((Int32.toUInt32 v0) >>> ((Int32.toUInt32 1) &&& Int32.toUInt32 31)).toInt32) &&& 1431655765))) >>> ((Int32.toUInt32 2) &&& Int32.toUInt32 31)).toInt32) &&& 858993459))) >>> ((Int32.toUInt32 4) &&& Int32.toUInt32 31)).toInt32)) &&& 252645135) + (((Int32.toUInt32 (((((v0 - ((((Int32.toUInt32 v0) >>> ((Int32.toUInt32 1) &&& Int32.toUInt32 31)).toInt32) &&& 1431655765)) &&& 858993459) + ((((Int32.toUInt32 (v0 - ((((Int32.toUInt32 v0) >>> ((Int32.toUInt32 1) &&& Int32.toUInt32 31)).toInt32) &&& 1431655765))) >>> ((Int32.toUInt32 2) &&& Int32.toUInt32 31)).toInt32) &&& 858993459)) + (((Int32.toUInt32 (((v0 - ((((Int32.toUInt32 v0) >>> ((Int32.toUInt32 1) &&& Int32.toUInt32 31)).toInt32) &&& 1431655765)) &&& 858993459) + ((((Int32.toUInt32 (v0 - ((((Int32.toUInt32 v0) >>> ((Int32.toUInt32 1) &&& Int32.toUInt32 31)).toInt32) &&& 1431655765))) >>> ((Int32.toUInt32 2) &&& Int32.toUInt32 31)).toInt32) &&& 858993459))) >>> ((Int32.toUInt32 4) &&& Int32.toUInt32 31)).toInt32)) &&& 252645135)) >>> ((Int32.toUInt32 8) &&& Int32.toUInt32 31)).toInt32)) + (((Int32.toUInt32 ((((((v0 - ((((Int32.toUInt32 v0) >>> ((Int32.toUInt32 1) &&& Int32.toUInt32 31)).toInt32) &&& 1431655765)) &&& 858993459) + ((((Int32.toUInt32 (v0 - ((((Int32.toUInt32 v0) >>> ((Int32.toUInt32 1) &&& Int32.toUInt32 31)).toInt32) &&& 1431655765))) >>> ((Int32.toUInt32 2) &&& Int32.toUInt32 31)).toInt32) &&& 858993459)) + (((Int32.toUInt32 (((v0 - ((((Int32.toUInt32 v0) >>> ((Int32.toUInt32 1) &&& Int32.toUInt32 31)).toInt32) &&& 1431655765)) &&& 858993459) + ((((Int32.toUInt32 (v0 - ((((Int32.toUInt32 v0) >>> ((Int32.toUInt32 1) &&& Int32.toUInt32 31)).toInt32) &&& 1431655765))) >>> ((Int32.toUInt32 2) &&& Int32.toUInt32 31)).toInt32) &&& 858993459))) >>> ((Int32.toUInt32 4) &&& Int32.toUInt32 31)).toInt32)) &&& 252645135) + (((Int32.toUInt32 (((((v0 - ((((Int32.toUInt32 v0) >>> ((Int32.toUInt32 1) &&& Int32.toUInt32 31)).toInt32) &&& 1431655765)) &&& 858993459) + ((((Int32.toUInt32 (v0 - ((((Int32.toUInt32 v0) >>> ((Int32.toUInt32 1) &&& Int32.toUInt32 31)).toInt32) &&& 1431655765))) >>> ((Int32.toUInt32 2) &&& Int32.toUInt32 31)).toInt32) &&& 858993459)) + (((Int32.toUInt32 (((v0 - ((((Int32.toUInt32 v0) >>> ((Int32.toUInt32 1) &&& Int32.toUInt32 31)).toInt32) &&& 1431655765)) &&& 858993459) + ((((Int32.toUInt32 (v0 - ((((Int32.toUInt32 v0) >>> ((Int32.toUInt32 1) &&& Int32.toUInt32 31)).toInt32) &&& 1431655765))) >>> ((Int32.toUInt32 2) &&& Int32.toUInt32 31)).toInt32) &&& 858993459))) >>> ((Int32.toUInt32 4) &&& Int32.toUInt32 31)).toInt32)) &&& 252645135)) >>> ((Int32.toUInt32 8) &&& Int32.toUInt32 31)).toInt32))) >>> ((Int32.toUInt32 16) &&& Int32.toUInt32 31)).toInt32)) &&& 63)
def zpcr (N : Nat) : Nat → Nat → Nat
  | 0, _ => 0
  | n + 1, i => (if N.testBit i = true then 1 else 0) + zpcr N n (i + 1)
theorem zbc_ok : ∀ N, N < 1024 → zbc (Int32.ofNat N) = Int32.ofNat (zpcr N 10 0) ∧ (N ≠ 0 → 0 < zpcr N 10 0) ∧ zpcr N 10 0 ≤ 10 := by decide +kernel
theorem zbt_ok : ∀ N, N < 1024 → ∀ k, k < 10 → (((((Int32.ofNat N) >>> ((Int32.ofNat k) &&& 31)) &&& 1)).toInt = 0 ↔ N.testBit k = false) := by decide +kernel
def zcnt (f : zS) : Nat → Nat → Nat
  | 0, _ => 0
  | n + 1, i => (if zmay f i then 1 else 0) + zcnt f n (i + 1)
def zpick (f : zS) : Nat → Nat → Int → Int
  | 0, _, _ => -1
  | n + 1, i, left => if zmay f i then (if left = 0 then i else zpick f n (i + 1) (left - 1)) else zpick f n (i + 1) left
theorem zpcr_cnt (f : zS) : ∀ n i, n + i ≤ 10 → zpcr (zbits f 10) n i = zcnt f n i
  | 0, _, _ => rfl
  | n + 1, i, h => by
    unfold zpcr zcnt
    rw [zpcr_cnt f n (i + 1) (by omega)]
    have t := zbits_test f i 10 (by omega)
    by_cases g : zmay f i
    · rw [if_pos (t.mpr g), if_pos g]
    · rw [if_neg (fun z => g (t.mp z)), if_neg g]
theorem zpick_ok (f : zS) : ∀ n i (left : Int), 0 ≤ left → left < zcnt f n i → zmay f (zpick f n i left)
  | 0, i, left, h0, h1 => by
    have : ((zcnt f 0 i : Nat) : Int) = 0 := rfl
    omega
  | n + 1, i, left, h0, h1 => by
    unfold zcnt at h1
    unfold zpick
    by_cases g : zmay f i
    · rw [if_pos g] at h1 ⊢
      by_cases e : left = 0
      · rw [if_pos e]
        exact g
      · rw [if_neg e]
        exact zpick_ok f n (i + 1) (left - 1) (by omega) (by omega)
    · rw [if_neg g] at h1 ⊢
      exact zpick_ok f n (i + 1) left h0 (by omega)
def znexts (s : Int) : Int := (Int32.ofInt s * 1103515245 + 12345).toInt
def zup (s : Int) : Int := (((Int32.toUInt32 (Int32.ofInt s)) >>> ((Int32.toUInt32 16) &&& Int32.toUInt32 31)).toInt32).toInt
theorem zup_b (u : UInt32) : 0 ≤ ((u >>> ((Int32.toUInt32 16) &&& Int32.toUInt32 31)).toInt32).toInt ∧ ((u >>> ((Int32.toUInt32 16) &&& Int32.toUInt32 31)).toInt32).toInt ≤ 65535 := by
  have e : ((Int32.toUInt32 16) &&& Int32.toUInt32 31) = (16 : UInt32) := by decide
  rw [e]
  have h : (u >>> (16 : UInt32)).toNat = u.toNat / 65536 := by
    rw [UInt32.toNat_shiftRight, Nat.shiftRight_eq_div_pow]
    rfl
  have l : u.toNat < 4294967296 := u.toNat_lt
  have q : (u >>> (16 : UInt32)).toBitVec.toNat < 65536 := by
    have : (u >>> (16 : UInt32)).toBitVec.toNat = u.toNat / 65536 := h
    omega
  have q2 : ((u >>> (16 : UInt32)).toInt32).toBitVec.toNat < 65536 := q
  have t : ((u >>> (16 : UInt32)).toInt32).toInt = (((u >>> (16 : UInt32)).toInt32).toBitVec.toNat : Int) := BitVec.toInt_eq_toNat_of_lt (by omega)
  rw [t]
  omega
section
variable {m : zf_Me}
theorem zs_211 {v : Int32} {Q : Int32 → zf_Me → Prop} (h : Q (zbc v) m) : wp_211 v m Q := h
theorem zs_120 {f : zS} {left : Int32} (hl : 0 ≤ left.toInt ∧ left.toInt ≤ 1000) {Q : Int32 → zf_Me → Prop} (hq : ∀ x : Int32, x.toInt = zpick f 10 0 left.toInt → Q x m) : wp_120 (Int32.ofNat (zbits f 10)) left m Q := by
  have e1 : (1 : Int32).toInt = 1 := rfl
  have en : (-1 : Int32).toInt = -1 := rfl
  have lp : ∀ (n : Nat) (v2 v3 : Int32), 0 ≤ v3.toInt → v3.toInt ≤ 10 → 10 - v3.toInt < n → (0 ≤ v2.toInt ∧ v2.toInt ≤ 1000) → zpick f 10 0 left.toInt = zpick f (10 - v3.toInt).toNat v3.toInt.toNat v2.toInt → wq_120_4 (Int32.ofNat (zbits f 10)) left Q n v2 v3 m := by
    intro n
    induction n with
    | zero => intro v2 v3 h0 h1 h2; omega
    | succ n ih =>
      intro v2 v3 h0 h1 h2 h4 h5
      refine ⟨fun g => hq _ ?_, fun g => ?_⟩
      · rw [h5, show (10 - v3.toInt).toNat = 0 by omega]
        rfl
      · have s := fb_addI (x := v3) (y := 1) (by omega) (by omega)
        have ev : v3 = Int32.ofNat v3.toInt.toNat := zn_of _ _ (by omega)
        have ej : ((v3.toInt.toNat : Nat) : Int) = v3.toInt := by omega
        have bt := zbt_ok (zbits f 10) (zbits_lt f 10) v3.toInt.toNat (by omega)
        rw [← ev] at bt
        have tt := zbits_test f v3.toInt.toNat 10 (by omega)
        rw [ej] at tt
        have st : zpick f (10 - v3.toInt).toNat v3.toInt.toNat v2.toInt = if zmay f v3.toInt then (if v2.toInt = 0 then v3.toInt else zpick f (10 - (v3 + 1).toInt).toNat (v3 + 1).toInt.toNat (v2.toInt - 1)) else zpick f (10 - (v3 + 1).toInt).toNat (v3 + 1).toInt.toNat v2.toInt := by
          rw [show (10 - v3.toInt).toNat = (10 - (v3 + 1).toInt).toNat + 1 by omega, show (v3 + 1).toInt.toNat = v3.toInt.toNat + 1 by omega]
          show (if zmay f ((v3.toInt.toNat : Nat) : Int) then (if v2.toInt = 0 then ((v3.toInt.toNat : Nat) : Int) else _) else _) = _
          rw [ej]
        refine ⟨fun g2 => ih _ _ (by omega) (by omega) (by omega) h4 ?_, fun g2 => ?_⟩
        · rw [h5, st, if_neg (fun z => by have a := tt.mpr z; rw [bt.mp g2] at a; cases a)]
        · have my : zmay f v3.toInt := tt.mp (by
            cases k : (zbits f 10).testBit v3.toInt.toNat with
            | true => rfl
            | false => exact absurd (bt.mpr k) g2)
          rw [if_pos my] at st
          refine ⟨fun g3 => ih _ _ (by omega) (by omega) (by omega) ?_ ?_, fun g3 => hq _ ?_⟩
          · rw [fb_addI (x := v2) (y := -1) (by omega) (by omega), en]
            omega
          · rw [h5, st, if_neg g3, fb_addI (x := v2) (y := -1) (by omega) (by omega), en]
            rfl
          · rw [h5, st, if_pos g3]
  exact ⟨12, lp 12 left 0 (by decide) (by decide) (by decide) hl rfl⟩
theorem zs_61 {w y r : Nat} (hd : zD w y r) {n : Int32} (hn : 0 < n.toInt) {Q : Int32 → zf_Me → Prop} (hq : ∀ (x : Int32) (m' : zf_Me), x.toInt = zup (znexts (zv w y r m 5 12)) % n.toInt → zv w y r m' = zU (zv w y r m) 5 12 (znexts (zv w y r m 5 12)) → zfw w r m m' → Q x m') : wp_61 w y r n m Q := by
  intro m1 q1
  have es : (m.1 w 12 * 1103515245 + 12345).toInt = znexts (zv w y r m 5 12) := by
    show _ = (Int32.ofInt (m.1 w 12).toInt * 1103515245 + 12345).toInt
    rw [Int32.ofInt_toInt]
  refine ⟨fun g => by omega, fun g => ⟨by omega, hq _ m1 ?_ ?_ ?_⟩⟩
  · have b := zup_b (Int32.toUInt32 (m1.1 w 12))
    rw [zf_remG b.1 hn]
    have e : (m1.1 w 12) = Int32.ofInt (znexts (zv w y r m 5 12)) := by
      rw [q1, zf_u3, ← es, Int32.ofInt_toInt]
    rw [e]
    rfl
  · rw [q1, zv_w12 hd, es]
  · rw [q1]
    exact zfr_u zfr_refl (Or.inl rfl)
theorem zB_seed {f : zS} {s : Int32} (h : zB f) : zB (zU f 5 12 s.toInt) := by
  have h1 := h.1
  have r := fb_rng s
  refine ⟨?_, zB2_u5 h.2.1, zB3_u5 h.2.2⟩
  show zB1 (f 5 0) (f 5 1) (f 5 2) (f 5 3) (f 5 4) (f 5 5) (f 5 6) (f 5 7) (f 5 8) (f 5 9) (f 5 10) (f 5 11) s.toInt
  omega
theorem zmay_seed {f : zS} {s a : Int} : zmay (zU f 5 12 s) a ↔ zmay f a := Iff.rfl
/-- one act of a summer: who may be drawn, the draw -/
def zsum1 (f : zS) : zS := if zbits f 10 = 0 then f else zact (zU f 5 12 (znexts (f 5 12))) (zpick f 10 0 (zup (znexts (f 5 12)) % zcnt f 10 0))
theorem zsum1_B {f : zS} (h : zB f) : zB (zsum1 f) := by
  unfold zsum1
  split
  · exact h
  · rename_i g
    have c := zbc_ok (zbits f 10) (zbits_lt f 10)
    have p := c.2.1 g
    rw [zpcr_cnt f 10 0 (by decide)] at p
    have b := zup_b (Int32.toUInt32 (Int32.ofInt (znexts (f 5 12))))
    have m1 := Int.emod_nonneg (zup (znexts (f 5 12))) (show (zcnt f 10 0 : Int) ≠ 0 by omega)
    have m2 := Int.emod_lt_of_pos (zup (znexts (f 5 12))) (show (0 : Int) < zcnt f 10 0 by omega)
    exact zB_act (zB_seed (s := Int32.ofInt (f 5 12) * 1103515245 + 12345) h) (zmay_seed.mpr (zpick_ok f 10 0 _ m1 m2))
def zsumm (f : zS) : Nat → zS
  | 0 => f
  | n + 1 => zsumm (zsum1 f) n
theorem zs_sum1 (hB : zB (zv 2 3 8 m)) {N : Nat} (hN : N = zbits (zv 2 3 8 m) 10) (ne : N ≠ 0) {Q : zf_Me → Prop} (hq : ∀ m', zv 2 3 8 m' = zsum1 (zv 2 3 8 m) → zfw 2 8 m m' → Q m') : wp_211 (Int32.ofNat N) m (fun x5 m6 => wp_61 2 3 8 x5 m6 (fun x7 m8 => wp_120 (Int32.ofNat N) x7 m8 (fun x9 m10 => wp_56 2 3 8 x9 m10 (fun m12 => Q m12)))) := by
  have lt : N < 1024 := by
    rw [hN]
    exact zbits_lt _ 10
  have c := zbc_ok N lt
  have p := c.2.1 ne
  have hc : zpcr N 10 0 = zcnt (zv 2 3 8 m) 10 0 := by
    rw [hN]
    exact zpcr_cnt _ 10 0 (by decide)
  rw [hc] at p c
  obtain ⟨k, hk⟩ : ∃ k, k = zcnt (zv 2 3 8 m) 10 0 := ⟨_, rfl⟩
  rw [← hk] at p c
  have i2 : (zbc (Int32.ofNat N)).toInt = (k : Int) := by
    rw [c.1]
    exact nI_toInt (by omega)
  have z1 : zsum1 (zv 2 3 8 m) = zact (zU (zv 2 3 8 m) 5 12 (znexts (zv 2 3 8 m 5 12))) (zpick (zv 2 3 8 m) 10 0 (zup (znexts (zv 2 3 8 m 5 12)) % k)) := by
    unfold zsum1
    rw [← hN, if_neg ne, ← hk]
  refine zs_211 ?_
  refine zs_61 zd2 (by omega) (fun x ms hx zs fs => ?_)
  rw [i2] at hx
  obtain ⟨u, hu⟩ : ∃ u, u = zup (znexts (zv 2 3 8 m 5 12)) := ⟨_, rfl⟩
  rw [← hu] at hx z1
  have m1 := Int.emod_nonneg u (show (k : Int) ≠ 0 by omega)
  have m2 := Int.emod_lt_of_pos u (show (0 : Int) < k by omega)
  have hxb : 0 ≤ x.toInt ∧ x.toInt ≤ 1000 := by
    rw [hx]
    exact ⟨m1, Int.le_trans (Int.le_of_lt m2) (by omega)⟩
  have pk := zpick_ok (zv 2 3 8 m) 10 0 (u % k) m1 (by rw [← hk]; exact m2)
  rw [hN]
  refine zs_120 hxb (fun a ha => ?_)
  rw [hx] at ha
  have my : zmay (zv 2 3 8 ms) a.toInt := by
    rw [zs, ha]
    exact zmay_seed.mpr pk
  have bs : zB (zv 2 3 8 ms) := by
    rw [zs]
    exact zB_seed (s := Int32.ofInt (zv 2 3 8 m 5 12) * 1103515245 + 12345) hB
  exact zs_56 zd2 bs my (fun m' z' f' => hq m' (by rw [z', z1, zs, ha]) (zfr_trans fs f'))
theorem zs_101 (hB : zB (zv 2 3 8 m)) {n : Int32} (hn : 1 ≤ n.toInt ∧ n.toInt ≤ 60) {Q : Int32 → zf_Me → Prop} (hq : ∀ m', zv 2 3 8 m' = zsumm (zv 2 3 8 m) n.toInt.toNat → zfw 2 8 m m' → Q (m'.1 2 10 - m.1 2 10) m') : ∃ n28, wq_101_28 n Q n28 (m.1 2 10) 0 m := by
  have e1 : (1 : Int32).toInt = 1 := rfl
  have lp : ∀ (k : Nat) (v : Int32) (mj : zf_Me), 0 ≤ v.toInt → v.toInt ≤ n.toInt → n.toInt - v.toInt < k → zB (zv 2 3 8 mj) → zfw 2 8 m mj → zsumm (zv 2 3 8 m) n.toInt.toNat = zsumm (zv 2 3 8 mj) (n.toInt - v.toInt).toNat → wq_101_28 n Q k (m.1 2 10) v mj := by
    intro k
    induction k with
    | zero => intro v mj h0 h1 h2; omega
    | succ k ih =>
      intro v mj h0 h1 h2 hb hf hs
      refine ⟨fun g => hq mj ?_ hf, fun g => zs_86 hb ?_⟩
      · rw [hs, show (n.toInt - v.toInt).toNat = 0 by omega]
        rfl
      · have s := fb_addI (x := v) (y := 1) (by omega) (by omega)
        have st : zsumm (zv 2 3 8 mj) (n.toInt - v.toInt).toNat = zsumm (zsum1 (zv 2 3 8 mj)) (n.toInt - (v + 1).toInt).toNat := by
          rw [show (n.toInt - v.toInt).toNat = (n.toInt - (v + 1).toInt).toNat + 1 by omega]
          rfl
        have lt := zbits_lt (zv 2 3 8 mj) 10
        obtain ⟨N, hN⟩ : ∃ N, N = zbits (zv 2 3 8 mj) 10 := ⟨_, rfl⟩
        rw [← hN] at lt ⊢
        have i1 : (Int32.ofNat N).toInt = (N : Int) := nI_toInt (by omega)
        refine ⟨fun g2 => ih _ mj (by omega) (by omega) (by omega) hb hf ?_, fun g2 => zs_sum1 hb hN (by omega) (fun m' z' f' => ih _ m' (by omega) (by omega) (by omega) ?_ (zfr_trans hf f') ?_)⟩
        · rw [hs, st]
          unfold zsum1
          rw [← hN, if_pos (by omega)]
        · rw [z']
          exact zsum1_B hb
        · rw [hs, st, z']
  exact ⟨62, lp 62 0 m (by decide) (by show (0 : Int) ≤ _; omega) (by show n.toInt - 0 < _; omega) hB zfr_refl (by show _ = zsumm _ (n.toInt - 0).toNat; rw [Int.sub_zero])⟩
theorem zsumm_B : ∀ (n : Nat) {f : zS}, zB f → zB (zsumm f n)
  | 0, _, h => h
  | n + 1, _, h => zsumm_B n (zsum1_B h)
-- the search ahead
theorem zdw {j : Nat} : zD (25 + 2 * j) 3 (26 + 2 * j) := by omega
theorem zs_16 {d w : Int32} (hd : 0 ≤ d.toInt ∧ d.toInt < 5) {Q : Bool → zf_Me → Prop} (hq : ∀ b, Q b m) : wp_16 d w m Q :=
  ⟨hd, fun _ => hq _, fun _ => ⟨fun _ => hq _, fun _ => ⟨fun _ => hq _, fun _ => hq _⟩⟩⟩
theorem zs_17 {d w : Int32} (hd : 0 ≤ d.toInt ∧ d.toInt < 5) {Q : zf_Me → Prop} (hq : ∀ m', zfr (fun a => a = 21 ∨ a = 24) m m' → m'.1 21 3 = m.1 21 3 → Q m') : wp_17 d w m Q := by
  have t72 : wq_17_72 d w m Q := by
    intro m5 q5 m7 q7 m9 q9 m11 q11 m13 q13
    refine hq m13 ?_ ?_
    · rw [q13, q11, q9, q7, q5]
      exact zfr_cp (zfr_u (zfr_u (zfr_u (zfr_u zfr_refl (Or.inl rfl)) (Or.inl rfl)) (Or.inl rfl)) (Or.inl rfl)) (Or.inr rfl)
    · rw [q13, zf_cp1 (by decide), q11, zf_u4 (by decide), q9, zf_u4 (by decide), q7, zf_u4 (by decide), q5, zf_u4 (by decide)]
  have t60 : ∀ v4 u0, wq_17_60 d w v4 u0 m Q := fun v4 u0 => ⟨fun _ => t72, fun _ => ⟨fun _ => hq m zfr_refl rfl, fun _ => t72⟩⟩
  exact ⟨hd, zs_119 (fun b _ => ⟨fun _ => t60 _ _, fun _ => ⟨fun _ => t60 _ _, fun _ => ⟨fun _ => t60 _ _, fun _ => t60 _ _⟩⟩⟩)⟩
abbrev zfD (d : Int) (m m' : zf_Me) : Prop := zfr (fun a => a = 21 ∨ a = 23 ∨ a = 24 ∨ (27 + 2 * d ≤ a ∧ a ≤ 34)) m m'
theorem zs_15 : ∀ (n : Nat) {d w : Int32} {m : zf_Me} {Q : zf_Me → Prop}, 0 ≤ d.toInt ∧ d.toInt ≤ (m.1 21 3).toInt → (m.1 21 3).toInt ≤ 4 → (m.1 21 3).toInt - d.toInt < n → zB (zv (25 + 2 * d.toInt.toNat) 3 (26 + 2 * d.toInt.toNat) m) → (∀ m', zfD d.toInt m m' → m'.1 21 3 = m.1 21 3 → Q m') → wp_15 n d w m Q := by
  intro n
  induction n with
  | zero => intro d w m Q h1 h2 h3; omega
  | succ n ih =>
    intro d w m Q h1 h2 h3 hB hq
    have e1 : (1 : Int32).toInt = 1 := rfl
    have t110 : ∀ (v4 : Int32) (mj : zf_Me), zfD d.toInt m mj → mj.1 21 3 = m.1 21 3 → wq_15_110 (wp_15 n) d w v4 mj Q := fun v4 mj hf hj => ⟨fun _ => hq mj hf hj, fun _ => zs_17 (by omega) (fun m' f' k' => hq m' (zfr_trans hf (zfr_mono f' (fun a ha => by omega))) (k'.trans hj))⟩
    have zk : ∀ mj, zfD d.toInt m mj → zv (25 + 2 * d.toInt.toNat) 3 (26 + 2 * d.toInt.toNat) mj = zv (25 + 2 * d.toInt.toNat) 3 (26 + 2 * d.toInt.toNat) m := fun mj hf => zv_of hf (by omega) (fun a _ _ => by omega) (by omega)
    show wb_15 (wp_15 n) d w m Q
    refine zs_16 (by omega) (fun b1 => ⟨fun _ => ⟨by omega, fun _ => t110 1 m zfr_refl rfl, fun g => zs_47 (fun b2 _ => ⟨fun _ => t110 1 m zfr_refl rfl, fun _ => ?_⟩)⟩, fun _ => hq m zfr_refl rfl⟩)
    have lp : ∀ (k : Nat) (v4 v5 : Int32) (mj : zf_Me), 0 ≤ v5.toInt → v5.toInt ≤ 10 → 10 - v5.toInt < k → zfD d.toInt m mj → mj.1 21 3 = m.1 21 3 → wq_15_38 (wp_15 n) d w Q k v4 v5 mj := by
      intro k
      induction k with
      | zero => intro v4 v5 mj k0 k1 k2; omega
      | succ k ihk =>
        intro v4 v5 mj k0 k1 k2 hf hj
        have hBj : zB (zv (25 + 2 * d.toInt.toNat) 3 (26 + 2 * d.toInt.toNat) mj) := by rw [zk mj hf]; exact hB
        refine ⟨fun _ => t110 v4 mj hf hj, fun g5 => zs_52 hBj (fun b hb => ?_)⟩
        have s := fb_addI (x := v5) (y := 1) (by omega) (by omega)
        have sd := fb_addI (x := d) (y := 1) (by omega) (by omega)
        have nd : (d + 1).toInt.toNat = d.toInt.toNat + 1 := by omega
        refine ⟨fun _ => ihk _ _ mj (by omega) (by omega) (by omega) hf hj, fun e => ⟨by omega, fun m11 q11 => ⟨by omega, ?_⟩⟩⟩
        have f11 : zfD d.toInt m m11 := by
          rw [q11]
          exact zfr_u hf (by omega)
        have j11 : m11.1 21 3 = m.1 21 3 := by rw [q11, zf_u1 (by decide), hj]
        refine zs_43s zdw (by omega) (fun m16 z16 f16 => ?_)
        rw [zk m11 f11] at z16
        have may : zmay (zv (25 + 2 * (d + 1).toInt.toNat) 3 (26 + 2 * (d + 1).toInt.toNat) m16) v5.toInt := by
          rw [z16, ← zk mj hf]
          exact hb.mp e
        have B16 : zB (zv (25 + 2 * (d + 1).toInt.toNat) 3 (26 + 2 * (d + 1).toInt.toNat) m16) := by rw [z16]; exact hB
        refine zs_56 zdw B16 may (fun m18 z18 f18 => ?_)
        have B18 : zB (zv (25 + 2 * (d + 1).toInt.toNat) 3 (26 + 2 * (d + 1).toInt.toNat) m18) := by rw [z18]; exact zB_act B16 may
        have f18' : zfD d.toInt m m18 := zfr_trans f11 (zfr_trans (zfr_mono f16 (fun a ha => by omega)) (zfr_mono f18 (fun a ha => by omega)))
        have j18 : m18.1 21 3 = m.1 21 3 := by rw [f18.1 21 (by omega), f16.1 21 (by omega), j11]
        exact zs_49 B18 (fun x _ => ih (by rw [j18]; omega) (by rw [j18]; omega) (by rw [j18]; omega) B18 (fun m22 f22 j22 => ihk _ _ m22 (by omega) (by omega) (by omega) (zfr_trans f18' (zfr_mono f22 (fun a ha => by omega))) (j22.trans j18)))
    exact ⟨12, lp 12 1 0 m (by decide) (by decide) (by decide) zfr_refl rfl⟩
theorem zs_14 (hB : zB (zv 2 3 8 m)) {n : Int32} (hn : 1 ≤ n.toInt ∧ n.toInt ≤ 4) {Q : zf_Me → Prop} (hq : ∀ m', zq m m' → Q m') : wp_14 2 3 8 n m Q := by
  have e4 : (4 : Int32).toInt = 4 := rfl
  have e0 : (0 : Int32).toInt = 0 := rfl
  intro m1 q1 m3 q3
  have f3 : zq m m3 := by
    rw [q3, q1]
    exact zfr_u (zfr_u zfr_refl (by omega)) (by omega)
  have d3 : (m3.1 21 3).toInt = n.toInt := by
    rw [q3, zf_u4 (by decide), q1, zf_u3, zi_min, e4]
    split <;> omega
  refine ⟨by decide, zs_43s (w := 25 + 2 * (Int32.toInt 0).toNat) (r := 26 + 2 * (Int32.toInt 0).toNat) zdw (by decide) (fun m8 z8 f8 => ?_)⟩
  have f8' : zq m m8 := zfr_trans f3 (zfr_mono f8 (fun a ha => by have : (Int32.toInt 0).toNat = 0 := rfl; omega))
  have d8 : m8.1 21 3 = m3.1 21 3 := congrFun (f8.1 21 (by decide)) 3
  have b3 : zB (zv 2 3 8 m3) := zs_now f3 hB
  exact zs_49 (zs_now f8' hB) (fun x _ => ⟨6, Nat.le_refl _, zs_15 6 (by rw [d8, d3]; exact ⟨by decide, by show (0 : Int) ≤ _; omega⟩) (by rw [d8, d3]; omega) (by rw [d8, d3]; show n.toInt - 0 < _; omega) (by rw [z8]; exact b3) (fun m12 f12 _ => hq m12 (zfr_trans f8' (zfr_mono f12 (fun a ha => by omega))))⟩)
theorem zX_87 (hJ : JX m) {n w : Int32} {Q : Int32 → zf_Me → Prop} (K : ∀ (v : Int32) (m' : zf_Me), zq m m' → Q v m') : wp_87 n w m Q := by
  refine ⟨fun _ => zk_109 (by decide) K, fun g => ⟨fun g2 => ⟨fun _ => zk_109 (by decide) K, fun g3 => ⟨fun g4 => zs_14 hJ.1 ⟨g3, g4⟩ (fun m6 f => ?_), fun _ => zk_109 (by decide) K⟩⟩, fun _ => zk_109 (by decide) K⟩⟩
  have R : wp_109 5 m6 (fun x m' => Q x m') := zk_109 (by decide) (fun v m2 f2 => K v m2 (zfr_trans f f2))
  refine ⟨fun k => by omega, fun _ => K _ m6 f, fun _ => ⟨fun _ => R, fun _ => ⟨by omega, K _ m6 f⟩⟩, fun _ => ⟨fun _ => R, fun _ => ⟨by omega, K _ m6 f⟩⟩, fun _ => ⟨fun _ => R, fun _ => ⟨by omega, K _ m6 f⟩⟩, fun _ => ⟨fun _ => R, fun _ => ⟨by omega, K _ m6 f⟩⟩, fun _ => K _ m6 f, fun _ => K _ m6 f, fun _ => K _ m6 f⟩
end
