section
/-! part 57: the class's calls that go on trial -/
def zbits (f : zS) : Nat → Nat
  | 0 => 0
  | n + 1 => if zmay f n then zbits f n + 2 ^ n else zbits f n
theorem zbits_lt (f : zS) : ∀ n, zbits f n < 2 ^ n
  | 0 => (by decide : (0 : Nat) < 2 ^ 0)
  | n + 1 => by
    have := zbits_lt f n
    unfold zbits
    rw [Nat.pow_succ]
    split <;> omega
theorem zbits_or : ∀ k, k < 10 → ∀ N, N < 2 ^ k → (Int32.ofNat N ||| ((1 : Int32) <<< ((Int32.ofNat k) &&& 31))) = Int32.ofNat (N + 2 ^ k) := by decide +kernel
theorem zn_of (x : Int32) (k : Nat) (h : x.toInt = k) : x = Int32.ofNat k := by
  apply zi_inj
  have := fb_rng x
  rw [h]
  exact (nI_toInt (by omega)).symm
theorem zbits_test (f : zS) (k : Nat) : ∀ n, k < n → ((zbits f n).testBit k = true ↔ zmay f k) := by
  intro n
  induction n with
  | zero => intro h; omega
  | succ n ih =>
    intro h
    have lt := zbits_lt f n
    by_cases e : k = n
    · subst e
      unfold zbits
      split
      · rename_i g
        rw [Nat.add_comm, Nat.testBit_two_pow_add_eq, Nat.testBit_lt_two_pow lt]
        exact iff_of_true rfl g
      · rename_i g
        rw [Nat.testBit_lt_two_pow lt]
        exact iff_of_false (by decide) g
    · have kn : k < n := by
        clear lt ih
        omega
      unfold zbits
      split
      · rw [Nat.add_comm, Nat.testBit_two_pow_add_gt kn]
        exact ih kn
      · exact ih kn
section
variable {m : zf_Me}
theorem zs_86 (hB : zB (zv 2 3 8 m)) {Q : Int32 → zf_Me → Prop} (hq : Q (Int32.ofNat (zbits (zv 2 3 8 m) 10)) m) : wp_86 m Q := by
  have e1 : (1 : Int32).toInt = 1 := rfl
  have lp : ∀ (n : Nat) (v1 v2 : Int32), 0 ≤ v2.toInt → v2.toInt ≤ 10 → 10 - v2.toInt < n → v1 = Int32.ofNat (zbits (zv 2 3 8 m) v2.toInt.toNat) → wq_86_4 Q n v1 v2 m := by
    intro n
    induction n with
    | zero => intro v1 v2 h0 h1 h2; omega
    | succ n ih =>
      intro v1 v2 h0 h1 h2 h3
      refine ⟨fun g => ?_, fun g => zs_52 hB (fun b hb => ?_)⟩
      · rw [h3, show v2.toInt = 10 by omega]
        exact hq
      · have s := fb_addI (x := v2) (y := 1) (by omega) (by omega)
        have e2 : (v2 + 1).toInt.toNat = v2.toInt.toNat + 1 := by omega
        have ev : v2 = Int32.ofNat v2.toInt.toNat := zn_of _ _ (by omega)
        have ej : ((v2.toInt.toNat : Nat) : Int) = v2.toInt := by omega
        refine ⟨fun e => ih _ _ (by omega) (by omega) (by omega) ?_, fun e => ih _ _ (by omega) (by omega) (by omega) ?_⟩
        · have st : zbits (zv 2 3 8 m) (v2.toInt.toNat + 1) = zbits (zv 2 3 8 m) v2.toInt.toNat := by
            show (if zmay (zv 2 3 8 m) ((v2.toInt.toNat : Nat) : Int) then _ else _) = _
            rw [ej, if_neg (fun z => by rw [hb.mpr z] at e; cases e)]
          rw [h3, e2, st]
        · rw [e2]
          have st : zbits (zv 2 3 8 m) (v2.toInt.toNat + 1) = zbits (zv 2 3 8 m) v2.toInt.toNat + 2 ^ v2.toInt.toNat := by
            show (if zmay (zv 2 3 8 m) ((v2.toInt.toNat : Nat) : Int) then _ else _) = _
            rw [ej, if_pos (hb.mp e)]
          rw [st, ← zbits_or v2.toInt.toNat (by omega) _ (zbits_lt _ _), h3, ← ev]
  exact ⟨12, lp 12 0 0 (by decide) (by decide) (by decide) rfl⟩
theorem zs_119 {a b c d : Int32} {Q : Bool → zf_Me → Prop} (hq : ∀ x, (x = true ↔ (c.toInt < a.toInt ∨ (a.toInt = c.toInt ∧ b.toInt < d.toInt))) → Q x m) : wp_119 a b c d m Q :=
  ⟨fun g => hq true (zb_t (by omega)), fun g => ⟨fun g2 => hq false (zb_f (by omega)), fun g2 => ⟨fun g3 => hq false (zb_f (by omega)), fun g3 => hq true (zb_t (by omega))⟩⟩⟩
-- by rules
theorem zs_now {m m' : zf_Me} (f : zq m m') (hB : zB (zv 2 3 8 m)) : zB (zv 2 3 8 m') := by rw [zq_now f]; exact hB
/-- a rule from the truth, begun and gone to the end -/
theorem zs_go (hB : zB (zv 2 3 8 m)) {rule : Int32} {Q : zf_Me → Prop} (hq : ∀ m', zrs m' = zgo rule.toInt 60 (zbeg (zv 2 3 8 m)) → zfR m m' → Q m') : wp_7 2 3 8 m (fun m4 => wp_8 rule m4 Q) :=
  zs_7 (by decide) hB (fun m4 z4 f4 => zs_8 (by rw [z4]; exact zRB_beg hB) (fun m5 z5 f5 => hq m5 (by rw [z5, z4]) (zfr_trans f4 f5)))
theorem zX_91 (hJ : JX m) {rule w : Int32} {Q : Int32 → zf_Me → Prop} (K : ∀ (v : Int32) (m' : zf_Me), zq m m' → Q v m') : wp_91 rule w m Q := by
  have e1 : (1 : Int32).toInt = 1 := rfl
  have lp : ∀ (n : Nat) (v3 v4 : Int32) (mj : zf_Me), 0 ≤ v4.toInt → v4.toInt ≤ 61 → 61 - v4.toInt < n → zRB (zrs mj) → zq m mj → wq_91_30 rule w Q n v3 v4 mj := by
    intro n
    induction n with
    | zero => intro v3 v4 mj h0 h1 h2; omega
    | succ n ih =>
      intro v3 v4 mj h0 h1 h2 hr hf
      refine ⟨fun _ => K _ mj hf, fun g => ⟨fun _ => K _ mj hf, fun _ => zs_9 hr (fun b m' y1 _ f1 => ⟨fun e => ?_, fun _ => K _ m' (zfr_trans hf (zfR_q f1))⟩)⟩⟩
      have s := fb_addI (x := v4) (y := 1) (by omega) (by omega)
      exact ih _ _ m' (by omega) (by omega) (by omega) (zRB_stp hr (y1 e)) (zfr_trans hf (zfR_q f1))
  exact zs_116 (fun _ => ⟨fun _ => zs_7 (by decide) hJ.1 (fun m4 z4 f4 => ⟨63, lp 63 _ 0 m4 (by decide) (by decide) (by decide) (by rw [z4]; exact zRB_beg hJ.1) (zfR_q f4)⟩), fun z => (nomatch z)⟩) (fun _ => ⟨fun z => (nomatch z), fun _ => zk_110 (by decide) K⟩)
theorem zrs_w {x : zS} {t n w : Int} {m : zf_Me} (h : zrs m = (x, t, n, w)) : zv 19 3 20 m = x ∧ (m.1 18 1).toInt = t ∧ (m.1 18 2).toInt = n ∧ (m.1 18 3).toInt = w := by
  unfold zrs at h
  cases h
  exact ⟨rfl, rfl, rfl, rfl⟩
end
end
section
/-! part 58: the class: summers, the search ahead: laid by wip/flat/w58.py -/
def zbc (v0 : Int32) : Int32 := ((((((((v0 - ((((Int32.toUInt32 v0) >>> ((Int32.toUInt32 1) &&& Int32.toUInt32 31)).toInt32) &&& 1431655765)) &&& 858993459) + ((((Int32.toUInt32 (v0 - ((((Int32.toUInt32 v0) >>> ((Int32.toUInt32 1) &&& Int32.toUInt32 31)).toInt32) &&& 1431655765))) >>> ((Int32.toUInt32 2) &&& Int32.toUInt32 31)).toInt32) &&& 858993459)) + (((Int32.toUInt32 (((v0 - ((((Int32.toUInt32 v0) >>> ((Int32.toUInt32 1) &&& Int32.toUInt32 31)).toInt32) &&& 1431655765)) &&& 858993459) + ((((Int32.toUInt32 (v0 - ((((Int32.toUInt32 v0) >>> ((Int32.toUInt32 1) &&& Int32.toUInt32 31)).toInt32) &&& 1431655765))) >>> ((Int32.toUInt32 2) &&& Int32.toUInt32 31)).toInt32) &&& 858993459))) >>> ((Int32.toUInt32 4) &&& Int32.toUInt32 31)).toInt32)) &&& 252645135) + (((Int32.toUInt32 (((((v0 - ((((Int32.toUInt32 v0) >>> ((Int32.toUInt32 1) &&& Int32.toUInt32 31)).toInt32) &&& 1431655765)) &&& 858993459) + ((((Int32.toUInt32 (v0 - ((((Int32.toUInt32 v0) >>> ((Int32.toUInt32 1) &&& Int32.toUInt32 31)).toInt32) &&& 1431655765))) >>> ((Int32.toUInt32 2) &&& Int32.toUInt32 31)).toInt32) &&& 858993459)) + (((Int32.toUInt32 (((v0 - ((((Int32.toUInt32 v0) >>> ((Int32.toUInt32 1) &&& Int32.toUInt32 31)).toInt32) &&& 1431655765)) &&& 858993459) + ((((Int32.toUInt32 (v0 - ((((Int32.toUInt32 v0) >>> ((Int32.toUInt32 1) &&& Int32.toUInt32 31)).toInt32) &&& 1431655765))) >>> ((Int32.toUInt32 2) &&& Int32.toUInt32 31)).toInt32) &&& 858993459))) >>> ((Int32.toUInt32 4) &&& Int32.toUInt32 31)).toInt32)) &&& 252645135)) >>> ((Int32.toUInt32 8) &&& Int32.toUInt32 31)).toInt32)) + (((Int32.toUInt32 ((((((v0 - ((((Int32.toUInt32 v0) >>> ((Int32.toUInt32 1) &&& Int32.toUInt32 31)).toInt32) &&& 1431655765)) &&& 858993459) + ((((Int32.toUInt32 (v0 - ((((Int32.toUInt32 v0) >>> ((Int32.toUInt32 1) &&& Int32.toUInt32 31)).toInt32) &&& 1431655765))) >>> ((Int32.toUInt32 2) &&& Int32.toUInt32 31)).toInt32) &&& 858993459)) + (((Int32.toUInt32 (((v0 - ((((Int32.toUInt32 v0) >>> ((Int32.toUInt32 1) &&& Int32.toUInt32 31)).toInt32) &&& 1431655765)) &&& 858993459) + ((((Int32.toUInt32 (v0 - ((((Int32.toUInt32 v0) >>> ((Int32.toUInt32 1) &&& Int32.toUInt32 31)).toInt32) &&& 1431655765))) >>> ((Int32.toUInt32 2) &&& Int32.toUInt32 31)).toInt32) &&& 858993459))) >>> ((Int32.toUInt32 4) &&& Int32.toUInt32 31)).toInt32)) &&& 252645135) + (((Int32.toUInt32 (((((v0 - ((((Int32.toUInt32 v0) >>> ((Int32.toUInt32 1) &&& Int32.toUInt32 31)).toInt32) &&& 1431655765)) &&& 858993459) + ((((Int32.toUInt32 (v0 - ((((Int32.toUInt32 v0) >>> ((Int32.toUInt32 1) &&& Int32.toUInt32 31)).toInt32) &&& 1431655765))) >>> ((Int32.toUInt32 2) &&& Int32.toUInt32 31)).toInt32) &&& 858993459)) + (((Int32.toUInt32 (((v0 - ((((Int32.toUInt32 v0) >>> ((Int32.toUInt32 1) &&& Int32.toUInt32 31)).toInt32) &&& 1431655765)) &&& 858993459) + ((((Int32.toUInt32 (v0 - ((((Int32.toUInt32 v0) >>> ((Int32.toUInt32 1) &&& Int32.toUInt32 31)).toInt32) &&& 1431655765))) >>> ((Int32.toUInt32 2) &&& Int32.toUInt32 31)).toInt32) &&& 858993459))) >>> ((Int32.toUInt32 4) &&& Int32.toUInt32 31)).toInt32)) &&& 252645135)) >>> ((Int32.toUInt32 8) &&& Int32.toUInt32 31)).toInt32))) >>> ((Int32.toUInt32 16) &&& Int32.toUInt32 31)).toInt32)) &&& 63)
def zpcr (N : Nat) : Nat → Nat → Nat
  | 0, _ => 0
  | n + 1, i => (if N.testBit i = true then 1 else 0) + zpcr N n (i + 1)
theorem zbc_ok : ∀ N, N < 1024 → zbc (Int32.ofNat N) = Int32.ofNat (zpcr N 10 0) ∧ (N ≠ 0 → 0 < zpcr N 10 0) ∧ zpcr N 10 0 ≤ 10 := by decide +kernel
theorem zbt_ok : ∀ N, N < 1024 → ∀ k, k < 10 → (((((Int32.ofNat N) >>> ((Int32.ofNat k) &&& 31)) &&& 1)).toInt = 0 ↔ N.testBit k = false) := by decide +kernel
def zcnt (f : zS) : Nat → Nat → Nat
  | 0, _ => 0
  | n + 1, i => (if zmay f i then 1 else 0) + zcnt f n (i + 1)
def zpick (f : zS) : Nat → Nat → Int → Int
  | 0, _, _ => -1
  | n + 1, i, left => if zmay f i then (if left = 0 then i else zpick f n (i + 1) (left - 1)) else zpick f n (i + 1) left
theorem zpcr_cnt (f : zS) : ∀ n i, n + i ≤ 10 → zpcr (zbits f 10) n i = zcnt f n i
  | 0, _, _ => rfl
  | n + 1, i, h => by
    unfold zpcr zcnt
    rw [zpcr_cnt f n (i + 1) (by omega)]
    have t := zbits_test f i 10 (by omega)
    by_cases g : zmay f i
    · rw [if_pos (t.mpr g), if_pos g]
    · rw [if_neg (fun z => g (t.mp z)), if_neg g]
theorem zpick_ok (f : zS) : ∀ n i (left : Int), 0 ≤ left → left < zcnt f n i → zmay f (zpick f n i left)
  | 0, i, left, h0, h1 => by
    have : ((zcnt f 0 i : Nat) : Int) = 0 := rfl
    omega
  | n + 1, i, left, h0, h1 => by
    unfold zcnt at h1
    unfold zpick
    by_cases g : zmay f i
    · rw [if_pos g] at h1 ⊢
      by_cases e : left = 0
      · rw [if_pos e]
        exact g
      · rw [if_neg e]
        exact zpick_ok f n (i + 1) (left - 1) (by omega) (by omega)
    · rw [if_neg g] at h1 ⊢
      exact zpick_ok f n (i + 1) left h0 (by omega)
def znexts (s : Int) : Int := (Int32.ofInt s * 1103515245 + 12345).toInt
def zup (s : Int) : Int := (((Int32.toUInt32 (Int32.ofInt s)) >>> ((Int32.toUInt32 16) &&& Int32.toUInt32 31)).toInt32).toInt
theorem zup_b (u : UInt32) : 0 ≤ ((u >>> ((Int32.toUInt32 16) &&& Int32.toUInt32 31)).toInt32).toInt ∧ ((u >>> ((Int32.toUInt32 16) &&& Int32.toUInt32 31)).toInt32).toInt ≤ 65535 := by
  have e : ((Int32.toUInt32 16) &&& Int32.toUInt32 31) = (16 : UInt32) := by decide
  rw [e]
  have h : (u >>> (16 : UInt32)).toNat = u.toNat / 65536 := by
    rw [UInt32.toNat_shiftRight, Nat.shiftRight_eq_div_pow]
    rfl
  have l : u.toNat < 4294967296 := u.toNat_lt
  have q : (u >>> (16 : UInt32)).toBitVec.toNat < 65536 := by
    have : (u >>> (16 : UInt32)).toBitVec.toNat = u.toNat / 65536 := h
    omega
  have q2 : ((u >>> (16 : UInt32)).toInt32).toBitVec.toNat < 65536 := q
  have t : ((u >>> (16 : UInt32)).toInt32).toInt = (((u >>> (16 : UInt32)).toInt32).toBitVec.toNat : Int) := BitVec.toInt_eq_toNat_of_lt (by omega)
  rw [t]
  omega
section
variable {m : zf_Me}
theorem zs_211 {v : Int32} {Q : Int32 → zf_Me → Prop} (h : Q (zbc v) m) : wp_211 v m Q := h
theorem zs_120 {f : zS} {left : Int32} (hl : 0 ≤ left.toInt ∧ left.toInt ≤ 1000) {Q : Int32 → zf_Me → Prop} (hq : ∀ x : Int32, x.toInt = zpick f 10 0 left.toInt → Q x m) : wp_120 (Int32.ofNat (zbits f 10)) left m Q := by
  have e1 : (1 : Int32).toInt = 1 := rfl
  have en : (-1 : Int32).toInt = -1 := rfl
  have lp : ∀ (n : Nat) (v2 v3 : Int32), 0 ≤ v3.toInt → v3.toInt ≤ 10 → 10 - v3.toInt < n → (0 ≤ v2.toInt ∧ v2.toInt ≤ 1000) → zpick f 10 0 left.toInt = zpick f (10 - v3.toInt).toNat v3.toInt.toNat v2.toInt → wq_120_4 (Int32.ofNat (zbits f 10)) left Q n v2 v3 m := by
    intro n
    induction n with
    | zero => intro v2 v3 h0 h1 h2; omega
    | succ n ih =>
      intro v2 v3 h0 h1 h2 h4 h5
      refine ⟨fun g => hq _ ?_, fun g => ?_⟩
      · rw [h5, show (10 - v3.toInt).toNat = 0 by omega]
        rfl
      · have s := fb_addI (x := v3) (y := 1) (by omega) (by omega)
        have ev : v3 = Int32.ofNat v3.toInt.toNat := zn_of _ _ (by omega)
        have ej : ((v3.toInt.toNat : Nat) : Int) = v3.toInt := by omega
        have bt := zbt_ok (zbits f 10) (zbits_lt f 10) v3.toInt.toNat (by omega)
        rw [← ev] at bt
        have tt := zbits_test f v3.toInt.toNat 10 (by omega)
        rw [ej] at tt
        have st : zpick f (10 - v3.toInt).toNat v3.toInt.toNat v2.toInt = if zmay f v3.toInt then (if v2.toInt = 0 then v3.toInt else zpick f (10 - (v3 + 1).toInt).toNat (v3 + 1).toInt.toNat (v2.toInt - 1)) else zpick f (10 - (v3 + 1).toInt).toNat (v3 + 1).toInt.toNat v2.toInt := by
          rw [show (10 - v3.toInt).toNat = (10 - (v3 + 1).toInt).toNat + 1 by omega, show (v3 + 1).toInt.toNat = v3.toInt.toNat + 1 by omega]
          show (if zmay f ((v3.toInt.toNat : Nat) : Int) then (if v2.toInt = 0 then ((v3.toInt.toNat : Nat) : Int) else _) else _) = _
          rw [ej]
        refine ⟨fun g2 => ih _ _ (by omega) (by omega) (by omega) h4 ?_, fun g2 => ?_⟩
        · rw [h5, st, if_neg (fun z => by have a := tt.mpr z; rw [bt.mp g2] at a; cases a)]
        · have my : zmay f v3.toInt := tt.mp (by
            cases k : (zbits f 10).testBit v3.toInt.toNat with
            | true => rfl
            | false => exact absurd (bt.mpr k) g2)
          rw [if_pos my] at st
          refine ⟨fun g3 => ih _ _ (by omega) (by omega) (by omega) ?_ ?_, fun g3 => hq _ ?_⟩
          · rw [fb_addI (x := v2) (y := -1) (by omega) (by omega), en]
            omega
          · rw [h5, st, if_neg g3, fb_addI (x := v2) (y := -1) (by omega) (by omega), en]
            rfl
          · rw [h5, st, if_pos g3]
  exact ⟨12, lp 12 left 0 (by decide) (by decide) (by decide) hl rfl⟩
theorem zs_61 {w y r : Nat} (hd : zD w y r) {n : Int32} (hn : 0 < n.toInt) {Q : Int32 → zf_Me → Prop} (hq : ∀ (x : Int32) (m' : zf_Me), x.toInt = zup (znexts (zv w y r m 5 12)) % n.toInt → zv w y r m' = zU (zv w y r m) 5 12 (znexts (zv w y r m 5 12)) → zfw w r m m' → Q x m') : wp_61 w y r n m Q := by
  intro m1 q1
  have es : (m.1 w 12 * 1103515245 + 12345).toInt = znexts (zv w y r m 5 12) := by
    show _ = (Int32.ofInt (m.1 w 12).toInt * 1103515245 + 12345).toInt
    rw [Int32.ofInt_toInt]
  refine ⟨fun g => by omega, fun g => ⟨by omega, hq _ m1 ?_ ?_ ?_⟩⟩
  · have b := zup_b (Int32.toUInt32 (m1.1 w 12))
    rw [zf_remG b.1 hn]
    have e : (m1.1 w 12) = Int32.ofInt (znexts (zv w y r m 5 12)) := by
      rw [q1, zf_u3, ← es, Int32.ofInt_toInt]
    rw [e]
    rfl
  · rw [q1, zv_w12 hd, es]
  · rw [q1]
    exact zfr_u zfr_refl (Or.inl rfl)
theorem zB_seed {f : zS} {s : Int32} (h : zB f) : zB (zU f 5 12 s.toInt) := by
  have h1 := h.1
  have r := fb_rng s
  refine ⟨?_, zB2_u5 h.2.1, zB3_u5 h.2.2⟩
  show zB1 (f 5 0) (f 5 1) (f 5 2) (f 5 3) (f 5 4) (f 5 5) (f 5 6) (f 5 7) (f 5 8) (f 5 9) (f 5 10) (f 5 11) s.toInt
  omega
theorem zmay_seed {f : zS} {s a : Int} : zmay (zU f 5 12 s) a ↔ zmay f a := Iff.rfl
/-- one act of a summer: who may be drawn, the draw -/
def zsum1 (f : zS) : zS := if zbits f 10 = 0 then f else zact (zU f 5 12 (znexts (f 5 12))) (zpick f 10 0 (zup (znexts (f 5 12)) % zcnt f 10 0))
theorem zsum1_B {f : zS} (h : zB f) : zB (zsum1 f) := by
  unfold zsum1
  split
  · exact h
  · rename_i g
    have c := zbc_ok (zbits f 10) (zbits_lt f 10)
    have p := c.2.1 g
    rw [zpcr_cnt f 10 0 (by decide)] at p
    have b := zup_b (Int32.toUInt32 (Int32.ofInt (znexts (f 5 12))))
    have m1 := Int.emod_nonneg (zup (znexts (f 5 12))) (show (zcnt f 10 0 : Int) ≠ 0 by omega)
    have m2 := Int.emod_lt_of_pos (zup (znexts (f 5 12))) (show (0 : Int) < zcnt f 10 0 by omega)
    exact zB_act (zB_seed (s := Int32.ofInt (f 5 12) * 1103515245 + 12345) h) (zmay_seed.mpr (zpick_ok f 10 0 _ m1 m2))
def zsumm (f : zS) : Nat → zS
  | 0 => f
  | n + 1 => zsumm (zsum1 f) n
theorem zs_sum1 (hB : zB (zv 2 3 8 m)) {N : Nat} (hN : N = zbits (zv 2 3 8 m) 10) (ne : N ≠ 0) {Q : zf_Me → Prop} (hq : ∀ m', zv 2 3 8 m' = zsum1 (zv 2 3 8 m) → zfw 2 8 m m' → Q m') : wp_211 (Int32.ofNat N) m (fun x5 m6 => wp_61 2 3 8 x5 m6 (fun x7 m8 => wp_120 (Int32.ofNat N) x7 m8 (fun x9 m10 => wp_56 2 3 8 x9 m10 (fun m12 => Q m12)))) := by
  have lt : N < 1024 := by
    rw [hN]
    exact zbits_lt _ 10
  have c := zbc_ok N lt
  have p := c.2.1 ne
  have hc : zpcr N 10 0 = zcnt (zv 2 3 8 m) 10 0 := by
    rw [hN]
    exact zpcr_cnt _ 10 0 (by decide)
  rw [hc] at p c
  obtain ⟨k, hk⟩ : ∃ k, k = zcnt (zv 2 3 8 m) 10 0 := ⟨_, rfl⟩
  rw [← hk] at p c
  have i2 : (zbc (Int32.ofNat N)).toInt = (k : Int) := by
    rw [c.1]
    exact nI_toInt (by omega)
  have z1 : zsum1 (zv 2 3 8 m) = zact (zU (zv 2 3 8 m) 5 12 (znexts (zv 2 3 8 m 5 12))) (zpick (zv 2 3 8 m) 10 0 (zup (znexts (zv 2 3 8 m 5 12)) % k)) := by
    unfold zsum1
    rw [← hN, if_neg ne, ← hk]
  refine zs_211 ?_
  refine zs_61 zd2 (by omega) (fun x ms hx zs fs => ?_)
  rw [i2] at hx
  obtain ⟨u, hu⟩ : ∃ u, u = zup (znexts (zv 2 3 8 m 5 12)) := ⟨_, rfl⟩
  rw [← hu] at hx z1
  have m1 := Int.emod_nonneg u (show (k : Int) ≠ 0 by omega)
  have m2 := Int.emod_lt_of_pos u (show (0 : Int) < k by omega)
  have hxb : 0 ≤ x.toInt ∧ x.toInt ≤ 1000 := by
    rw [hx]
    exact ⟨m1, Int.le_trans (Int.le_of_lt m2) (by omega)⟩
  have pk := zpick_ok (zv 2 3 8 m) 10 0 (u % k) m1 (by rw [← hk]; exact m2)
  rw [hN]
  refine zs_120 hxb (fun a ha => ?_)
  rw [hx] at ha
  have my : zmay (zv 2 3 8 ms) a.toInt := by
    rw [zs, ha]
    exact zmay_seed.mpr pk
  have bs : zB (zv 2 3 8 ms) := by
    rw [zs]
    exact zB_seed (s := Int32.ofInt (zv 2 3 8 m 5 12) * 1103515245 + 12345) hB
  exact zs_56 zd2 bs my (fun m' z' f' => hq m' (by rw [z', z1, zs, ha]) (zfr_trans fs f'))
theorem zs_101 (hB : zB (zv 2 3 8 m)) {n : Int32} (hn : 1 ≤ n.toInt ∧ n.toInt ≤ 60) {Q : Int32 → zf_Me → Prop} (hq : ∀ m', zv 2 3 8 m' = zsumm (zv 2 3 8 m) n.toInt.toNat → zfw 2 8 m m' → Q (m'.1 2 10 - m.1 2 10) m') : ∃ n28, wq_101_28 n Q n28 (m.1 2 10) 0 m := by
  have e1 : (1 : Int32).toInt = 1 := rfl
  have lp : ∀ (k : Nat) (v : Int32) (mj : zf_Me), 0 ≤ v.toInt → v.toInt ≤ n.toInt → n.toInt - v.toInt < k → zB (zv 2 3 8 mj) → zfw 2 8 m mj → zsumm (zv 2 3 8 m) n.toInt.toNat = zsumm (zv 2 3 8 mj) (n.toInt - v.toInt).toNat → wq_101_28 n Q k (m.1 2 10) v mj := by
    intro k
    induction k with
    | zero => intro v mj h0 h1 h2; omega
    | succ k ih =>
      intro v mj h0 h1 h2 hb hf hs
      refine ⟨fun g => hq mj ?_ hf, fun g => zs_86 hb ?_⟩
      · rw [hs, show (n.toInt - v.toInt).toNat = 0 by omega]
        rfl
      · have s := fb_addI (x := v) (y := 1) (by omega) (by omega)
        have st : zsumm (zv 2 3 8 mj) (n.toInt - v.toInt).toNat = zsumm (zsum1 (zv 2 3 8 mj)) (n.toInt - (v + 1).toInt).toNat := by
          rw [show (n.toInt - v.toInt).toNat = (n.toInt - (v + 1).toInt).toNat + 1 by omega]
          rfl
        have lt := zbits_lt (zv 2 3 8 mj) 10
        obtain ⟨N, hN⟩ : ∃ N, N = zbits (zv 2 3 8 mj) 10 := ⟨_, rfl⟩
        rw [← hN] at lt ⊢
        have i1 : (Int32.ofNat N).toInt = (N : Int) := nI_toInt (by omega)
        refine ⟨fun g2 => ih _ mj (by omega) (by omega) (by omega) hb hf ?_, fun g2 => zs_sum1 hb hN (by omega) (fun m' z' f' => ih _ m' (by omega) (by omega) (by omega) ?_ (zfr_trans hf f') ?_)⟩
        · rw [hs, st]
          unfold zsum1
          rw [← hN, if_pos (by omega)]
        · rw [z']
          exact zsum1_B hb
        · rw [hs, st, z']
  exact ⟨62, lp 62 0 m (by decide) (by show (0 : Int) ≤ _; omega) (by show n.toInt - 0 < _; omega) hB zfr_refl (by show _ = zsumm _ (n.toInt - 0).toNat; rw [Int.sub_zero])⟩
theorem zsumm_B : ∀ (n : Nat) {f : zS}, zB f → zB (zsumm f n)
  | 0, _, h => h
  | n + 1, _, h => zsumm_B n (zsum1_B h)
-- the search ahead
theorem zdw {j : Nat} : zD (25 + 2 * j) 3 (26 + 2 * j) := by omega
theorem zs_16 {d w : Int32} (hd : 0 ≤ d.toInt ∧ d.toInt < 5) {Q : Bool → zf_Me → Prop} (hq : ∀ b, Q b m) : wp_16 d w m Q :=
  ⟨hd, fun _ => hq _, fun _ => ⟨fun _ => hq _, fun _ => ⟨fun _ => hq _, fun _ => hq _⟩⟩⟩
theorem zs_17 {d w : Int32} (hd : 0 ≤ d.toInt ∧ d.toInt < 5) {Q : zf_Me → Prop} (hq : ∀ m', zfr (fun a => a = 21 ∨ a = 24) m m' → m'.1 21 3 = m.1 21 3 → Q m') : wp_17 d w m Q := by
  have t72 : wq_17_72 d w m Q := by
    intro m5 q5 m7 q7 m9 q9 m11 q11 m13 q13
    refine hq m13 ?_ ?_
    · rw [q13, q11, q9, q7, q5]
      exact zfr_cp (zfr_u (zfr_u (zfr_u (zfr_u zfr_refl (Or.inl rfl)) (Or.inl rfl)) (Or.inl rfl)) (Or.inl rfl)) (Or.inr rfl)
    · rw [q13, zf_cp1 (by decide), q11, zf_u4 (by decide), q9, zf_u4 (by decide), q7, zf_u4 (by decide), q5, zf_u4 (by decide)]
  have t60 : ∀ v4 u0, wq_17_60 d w v4 u0 m Q := fun v4 u0 => ⟨fun _ => t72, fun _ => ⟨fun _ => hq m zfr_refl rfl, fun _ => t72⟩⟩
  exact ⟨hd, zs_119 (fun b _ => ⟨fun _ => t60 _ _, fun _ => ⟨fun _ => t60 _ _, fun _ => ⟨fun _ => t60 _ _, fun _ => t60 _ _⟩⟩⟩)⟩
abbrev zfD (d : Int) (m m' : zf_Me) : Prop := zfr (fun a => a = 21 ∨ a = 23 ∨ a = 24 ∨ (27 + 2 * d ≤ a ∧ a ≤ 34)) m m'
theorem zs_15 : ∀ (n : Nat) {d w : Int32} {m : zf_Me} {Q : zf_Me → Prop}, 0 ≤ d.toInt ∧ d.toInt ≤ (m.1 21 3).toInt → (m.1 21 3).toInt ≤ 4 → (m.1 21 3).toInt - d.toInt < n → zB (zv (25 + 2 * d.toInt.toNat) 3 (26 + 2 * d.toInt.toNat) m) → (∀ m', zfD d.toInt m m' → m'.1 21 3 = m.1 21 3 → Q m') → wp_15 n d w m Q := by
  intro n
  induction n with
  | zero => intro d w m Q h1 h2 h3; omega
  | succ n ih =>
    intro d w m Q h1 h2 h3 hB hq
    have e1 : (1 : Int32).toInt = 1 := rfl
    have t110 : ∀ (v4 : Int32) (mj : zf_Me), zfD d.toInt m mj → mj.1 21 3 = m.1 21 3 → wq_15_110 (wp_15 n) d w v4 mj Q := fun v4 mj hf hj => ⟨fun _ => hq mj hf hj, fun _ => zs_17 (by omega) (fun m' f' k' => hq m' (zfr_trans hf (zfr_mono f' (fun a ha => by omega))) (k'.trans hj))⟩
    have zk : ∀ mj, zfD d.toInt m mj → zv (25 + 2 * d.toInt.toNat) 3 (26 + 2 * d.toInt.toNat) mj = zv (25 + 2 * d.toInt.toNat) 3 (26 + 2 * d.toInt.toNat) m := fun mj hf => zv_of hf (by omega) (fun a _ _ => by omega) (by omega)
    show wb_15 (wp_15 n) d w m Q
    refine zs_16 (by omega) (fun b1 => ⟨fun _ => ⟨by omega, fun _ => t110 1 m zfr_refl rfl, fun g => zs_47 (fun b2 _ => ⟨fun _ => t110 1 m zfr_refl rfl, fun _ => ?_⟩)⟩, fun _ => hq m zfr_refl rfl⟩)
    have lp : ∀ (k : Nat) (v4 v5 : Int32) (mj : zf_Me), 0 ≤ v5.toInt → v5.toInt ≤ 10 → 10 - v5.toInt < k → zfD d.toInt m mj → mj.1 21 3 = m.1 21 3 → wq_15_38 (wp_15 n) d w Q k v4 v5 mj := by
      intro k
      induction k with
      | zero => intro v4 v5 mj k0 k1 k2; omega
      | succ k ihk =>
        intro v4 v5 mj k0 k1 k2 hf hj
        have hBj : zB (zv (25 + 2 * d.toInt.toNat) 3 (26 + 2 * d.toInt.toNat) mj) := by rw [zk mj hf]; exact hB
        refine ⟨fun _ => t110 v4 mj hf hj, fun g5 => zs_52 hBj (fun b hb => ?_)⟩
        have s := fb_addI (x := v5) (y := 1) (by omega) (by omega)
        have sd := fb_addI (x := d) (y := 1) (by omega) (by omega)
        have nd : (d + 1).toInt.toNat = d.toInt.toNat + 1 := by omega
        refine ⟨fun _ => ihk _ _ mj (by omega) (by omega) (by omega) hf hj, fun e => ⟨by omega, fun m11 q11 => ⟨by omega, ?_⟩⟩⟩
        have f11 : zfD d.toInt m m11 := by
          rw [q11]
          exact zfr_u hf (by omega)
        have j11 : m11.1 21 3 = m.1 21 3 := by rw [q11, zf_u1 (by decide), hj]
        refine zs_43s zdw (by omega) (fun m16 z16 f16 => ?_)
        rw [zk m11 f11] at z16
        have may : zmay (zv (25 + 2 * (d + 1).toInt.toNat) 3 (26 + 2 * (d + 1).toInt.toNat) m16) v5.toInt := by
          rw [z16, ← zk mj hf]
          exact hb.mp e
        have B16 : zB (zv (25 + 2 * (d + 1).toInt.toNat) 3 (26 + 2 * (d + 1).toInt.toNat) m16) := by rw [z16]; exact hB
        refine zs_56 zdw B16 may (fun m18 z18 f18 => ?_)
        have B18 : zB (zv (25 + 2 * (d + 1).toInt.toNat) 3 (26 + 2 * (d + 1).toInt.toNat) m18) := by rw [z18]; exact zB_act B16 may
        have f18' : zfD d.toInt m m18 := zfr_trans f11 (zfr_trans (zfr_mono f16 (fun a ha => by omega)) (zfr_mono f18 (fun a ha => by omega)))
        have j18 : m18.1 21 3 = m.1 21 3 := by rw [f18.1 21 (by omega), f16.1 21 (by omega), j11]
        exact zs_49 B18 (fun x _ => ih (by rw [j18]; omega) (by rw [j18]; omega) (by rw [j18]; omega) B18 (fun m22 f22 j22 => ihk _ _ m22 (by omega) (by omega) (by omega) (zfr_trans f18' (zfr_mono f22 (fun a ha => by omega))) (j22.trans j18)))
    exact ⟨12, lp 12 1 0 m (by decide) (by decide) (by decide) zfr_refl rfl⟩
theorem zs_14 (hB : zB (zv 2 3 8 m)) {n : Int32} (hn : 1 ≤ n.toInt ∧ n.toInt ≤ 4) {Q : zf_Me → Prop} (hq : ∀ m', zq m m' → Q m') : wp_14 2 3 8 n m Q := by
  have e4 : (4 : Int32).toInt = 4 := rfl
  have e0 : (0 : Int32).toInt = 0 := rfl
  intro m1 q1 m3 q3
  have f3 : zq m m3 := by
    rw [q3, q1]
    exact zfr_u (zfr_u zfr_refl (by omega)) (by omega)
  have d3 : (m3.1 21 3).toInt = n.toInt := by
    rw [q3, zf_u4 (by decide), q1, zf_u3, zi_min, e4]
    split <;> omega
  refine ⟨by decide, zs_43s (w := 25 + 2 * (Int32.toInt 0).toNat) (r := 26 + 2 * (Int32.toInt 0).toNat) zdw (by decide) (fun m8 z8 f8 => ?_)⟩
  have f8' : zq m m8 := zfr_trans f3 (zfr_mono f8 (fun a ha => by have : (Int32.toInt 0).toNat = 0 := rfl; omega))
  have d8 : m8.1 21 3 = m3.1 21 3 := congrFun (f8.1 21 (by decide)) 3
  have b3 : zB (zv 2 3 8 m3) := zs_now f3 hB
  exact zs_49 (zs_now f8' hB) (fun x _ => ⟨6, Nat.le_refl _, zs_15 6 (by rw [d8, d3]; exact ⟨by decide, by show (0 : Int) ≤ _; omega⟩) (by rw [d8, d3]; omega) (by rw [d8, d3]; show n.toInt - 0 < _; omega) (by rw [z8]; exact b3) (fun m12 f12 _ => hq m12 (zfr_trans f8' (zfr_mono f12 (fun a ha => by omega))))⟩)
theorem zX_87 (hJ : JX m) {n w : Int32} {Q : Int32 → zf_Me → Prop} (K : ∀ (v : Int32) (m' : zf_Me), zq m m' → Q v m') : wp_87 n w m Q := by
  refine ⟨fun _ => zk_109 (by decide) K, fun g => ⟨fun g2 => ⟨fun _ => zk_109 (by decide) K, fun g3 => ⟨fun g4 => zs_14 hJ.1 ⟨g3, g4⟩ (fun m6 f => ?_), fun _ => zk_109 (by decide) K⟩⟩, fun _ => zk_109 (by decide) K⟩⟩
  have R : wp_109 5 m6 (fun x m' => Q x m') := zk_109 (by decide) (fun v m2 f2 => K v m2 (zfr_trans f f2))
  refine ⟨fun k => by omega, fun _ => K _ m6 f, fun _ => ⟨fun _ => R, fun _ => ⟨by omega, K _ m6 f⟩⟩, fun _ => ⟨fun _ => R, fun _ => ⟨by omega, K _ m6 f⟩⟩, fun _ => ⟨fun _ => R, fun _ => ⟨by omega, K _ m6 f⟩⟩, fun _ => ⟨fun _ => R, fun _ => ⟨by omega, K _ m6 f⟩⟩, fun _ => K _ m6 f, fun _ => K _ m6 f, fun _ => K _ m6 f⟩
end
end
section
/-! part 59: the class reads a text: it keeps its bounds -/
abbrev zfT (m m' : zf_Me) : Prop := zfr (fun a => 35 ≤ a ∧ a ≤ 43) m m'
theorem zv36_35 {m : zf_Me} {k : Nat} {x : Int32} : zv 36 37 42 (zf_u m 35 k x) = zv 36 37 42 m := zv_fr (zf_u1 (by decide)) (fun a _ _ => zf_u1 (by omega)) (zf_u1 (by decide))
section
variable {m : zf_Me}
theorem zy_38 {w : Int32} {Q : Nat → zf_Me → Prop} (hq : ∀ t : Nat, t < 12 → (0 ≤ w.toInt → w.toInt < 12 → (t : Int) = w.toInt) → Q t m) : wp_38 w m Q :=
  ⟨fun g => hq 11 (by decide) (fun a b => by omega), fun g => hq 0 (by decide) (fun a b => by omega), fun g => hq 1 (by decide) (fun a b => by omega), fun g => hq 2 (by decide) (fun a b => by omega), fun g => hq 3 (by decide) (fun a b => by omega), fun g => hq 4 (by decide) (fun a b => by omega), fun g => hq 5 (by decide) (fun a b => by omega), fun g => hq 6 (by decide) (fun a b => by omega), fun g => hq 7 (by decide) (fun a b => by omega), fun g => hq 8 (by decide) (fun a b => by omega), fun g => hq 9 (by decide) (fun a b => by omega), fun g => hq 10 (by decide) (fun a b => by omega)⟩
theorem zk_lenb : ∀ a, a < 12 → zx_sl.getD a 0 ≤ 8 := by decide
end
end
section
/-! part 60: the moves of the class: laid by wip/flat/w60.py -/
def zbd (k v : Nat) : Nat := [10, 11, 12, 20, 0, 0, 0, 30, 0, 0, 40, 0, 51, 0, 50, 0, 0, 60, 70, 71, 0].getD (3 * k + v) 0
def zab (k : Nat) : Nat := [7, 0, 0, 1, 0, 2, 4].getD k 7
def zat (v : Nat) : Nat → Nat → Nat
  | 0, k => k
  | j + 1, k => if zbd k v = 0 then zat v j (zab k) else k
abbrev zMv : Type := Option (Int32 × List Nat)
def zfb (rec : Nat → Nat → Int32 → zMv) (own : Nat) (num tra : Int32) (a b : Nat) (x : Int32) : zMv :=
  if b = 10 then some (x + num, [10])
  else if b = 11 then (rec own 0 x).map (fun r => (r.1 * 2, 11 :: r.2))
  else if b = 12 then (rec own 1 x).bind (fun r => (rec own 0 (x - tra)).map (fun q => (r.1 ^^^ q.1, 12 :: (r.2 ++ q.2))))
  else if b = 20 then (rec (zab a) 0 x).map (fun r => (r.1 + tra, 20 :: r.2))
  else if b = 30 then (rec (zab a) 1 x).map (fun r => (r.1 * 3, 30 :: r.2))
  else if b = 40 then (rec (zab a) 1 (x + 1)).map (fun r => (r.1, 40 :: r.2))
  else if b = 50 then (rec (zab a) 2 x).map (fun r => (-r.1, 50 :: r.2))
  else if b = 51 then (rec (zab a) 0 x).map (fun r => (r.1 - num, 51 :: r.2))
  else if b = 60 then (rec (zab a) 2 x).map (fun r => (r.1 ^^^ 5, 60 :: r.2))
  else if b = 70 then (rec (zab a) 0 x).map (fun r => (r.1 * 2, 70 :: r.2))
  else (rec (zab a) 1 (x - tra)).map (fun r => (r.1, 71 :: r.2))
def zfrm (own : Nat) (num tra : Int32) : Nat → Nat → Nat → Int32 → zMv
  | 0, _, _, _ => none
  | n + 1, k, v, x => zfb (zfrm own num tra n) own num tra (zat v 7 k) (zbd (zat v 7 k) v) x
def zpu (m : zf_Me) (b : Nat) : zf_Me := if (m.1 44 1).toInt < 20 then zf_u (zf_u m 45 (m.1 44 1).toInt.toNat (Int32.ofNat b)) 44 1 (m.1 44 1 + 1) else zf_u m 44 1 (m.1 44 1 + 1)
def zpus (m : zf_Me) (l : List Nat) : zf_Me := l.foldl zpu m
theorem zpu_k {m : zf_Me} {b k : Nat} (h : ¬ k = 1) : (zpu m b).1 44 k = m.1 44 k := by
  unfold zpu
  split
  · rw [zf_u4 h, zf_u1 (by decide)]
  · rw [zf_u4 h]
theorem zpu_r {m : zf_Me} {b : Nat} : (zpu m b).1 44 1 = m.1 44 1 + 1 := by
  unfold zpu
  split
  · rw [zf_u3]
  · rw [zf_u3]
theorem zpu_f {m : zf_Me} {b : Nat} : zfr (fun a => a = 44 ∨ a = 45) m (zpu m b) := by
  unfold zpu
  split
  · exact zfr_u (zfr_u zfr_refl (Or.inr rfl)) (Or.inl rfl)
  · exact zfr_u zfr_refl (Or.inl rfl)
theorem zpus_k : ∀ (l : List Nat) {m : zf_Me} {k : Nat}, ¬ k = 1 → (zpus m l).1 44 k = m.1 44 k
  | [], _, _, _ => rfl
  | b :: l, m, k, h => by
    show (zpus (zpu m b) l).1 44 k = _
    rw [zpus_k l h, zpu_k h]
theorem zpus_f : ∀ (l : List Nat) {m : zf_Me}, zfr (fun a => a = 44 ∨ a = 45) m (zpus m l)
  | [], _ => zfr_refl
  | b :: l, m => zfr_trans zpu_f (zpus_f l)
theorem zpus_r : ∀ (l : List Nat) {m : zf_Me}, 0 ≤ (m.1 44 1).toInt → (m.1 44 1).toInt + l.length ≤ 1000000 → ((zpus m l).1 44 1).toInt = (m.1 44 1).toInt + l.length
  | [], m, _, _ => (Int.add_zero _).symm
  | b :: l, m, h0, h => by
    have e1 : (1 : Int32).toInt = 1 := rfl
    have hl : ((b :: l).length : Int) = l.length + 1 := rfl
    have s := fb_addI (x := m.1 44 1) (y := 1) (by omega) (by omega)
    show ((zpus (zpu m b) l).1 44 1).toInt = _
    have r : (zpu m b).1 44 1 = m.1 44 1 + 1 := zpu_r
    rw [zpus_r l (by rw [r]; omega) (by rw [r]; omega), r, s]
    omega
theorem zpus_app {m : zf_Me} {l l2 : List Nat} : zpus m (l ++ l2) = zpus (zpus m l) l2 := List.foldl_append
theorem ztb : ∀ k, k < 7 → ∀ v, v < 3 → ((Int32.ofNat k) * 3 + Int32.ofNat v).toInt = 3 * k + v ∧ ((Int32.ofNat k) * 3 + Int32.ofNat v).toInt.toNat = 3 * k + v ∧ (zx_sa.getD 4 []).getD (3 * k + v) 0 = Int32.ofNat (zbd k v) ∧ ((Int32.ofNat (zbd k v)).toInt = 0 ↔ zbd k v = 0) ∧ (zbd k v = 0 → zab k < 7 ∧ (zx_sa.getD 0 []).getD k 0 = Int32.ofNat (zab k)) ∧ (Int32.ofNat k).toInt = k := by decide +kernel
theorem zat_lt (v : Nat) (hv : v < 3) : ∀ j k, k < 7 → zat v j k < 7
  | 0, _, h => h
  | j + 1, k, h => by
    unfold zat
    split
    · rename_i g
      exact zat_lt v hv j (zab k) ((ztb k h v hv).2.2.2.2.1 g).1
    · exact h
section
variable {R : Int32 → Int32 → Int32 → Int32 → zf_Me → (Int32 → zf_Me → Prop) → Prop} {Q : Int32 → zf_Me → Prop} {m : zf_Me}
theorem zmv_6 {v : Nat} (hv : v < 3) {v1 x d : Int32} : ∀ (j fuel k : Nat) (v6 : Int32), k < 7 → j ≤ 7 → j < fuel → v6.toInt + j = 7 → wq_4_48 R v1 (Int32.ofNat v) x d (Int32.ofNat (zat v j k)) m Q → wq_4_6 R v1 (Int32.ofNat v) x d Q fuel (Int32.ofNat k) v6 m := by
  intro j
  induction j with
  | zero =>
    intro fuel k v6 hk hj hf h6 h
    obtain ⟨f, rfl⟩ : ∃ f, fuel = f + 1 := ⟨fuel - 1, by omega⟩
    exact ⟨fun _ => h, fun z => by omega⟩
  | succ j ih =>
    intro fuel k v6 hk hj hf h6 h
    obtain ⟨f, rfl⟩ : ∃ f, fuel = f + 1 := ⟨fuel - 1, by omega⟩
    have e1 : (1 : Int32).toInt = 1 := rfl
    have t := ztb k hk v hv
    have s := fb_addI (x := v6) (y := 1) (by omega) (by omega)
    refine ⟨fun z => by omega, fun _ => zs_115 (fun g => ⟨fun z => (nomatch z), fun _ => ⟨by omega, fun g2 => ?_, fun g2 => ?_⟩⟩) (fun g => absurd (by omega) g)⟩
    · rw [t.2.1, t.2.2.1] at g2
      unfold zat at h
      rw [if_neg (fun z => g2 (t.2.2.2.1.mpr z))] at h
      exact h
    · rw [t.2.1, t.2.2.1] at g2
      have z := t.2.2.2.1.mp g2
      have u := t.2.2.2.2.1 z
      unfold zat at h
      rw [if_pos z] at h
      refine ⟨g, ?_⟩
      rw [show (Int32.ofNat k).toInt.toNat = k by omega, u.2]
      exact ih f (zab k) _ u.1 (by omega) (by omega) (by omega) h
theorem zmv_48 {v a : Nat} (hv : v < 3) (ha : a < 7) {v1 x d : Int32} (hd : d.toInt ≤ 40) (hr : 0 ≤ (m.1 44 1).toInt) (h : wp_5 R (Int32.ofNat (zbd a v)) ((zx_sa.getD 0 []).getD a 0) x (d + 1) (zpu m (zbd a v)) Q) : wq_4_48 R v1 (Int32.ofNat v) x d (Int32.ofNat a) m Q := by
  have t := ztb a ha v hv
  have c : ∀ (mj : zf_Me), zf_u mj 44 1 (mj.1 44 1 + 1) = zpu m (zbd a v) → wq_4_97 R v1 (Int32.ofNat v) x d (Int32.ofNat a) (Int32.ofNat (zbd a v)) mj Q := fun mj hj m3 q3 => by
    refine ⟨by omega, ?_⟩
    rw [show (Int32.ofNat a).toInt.toNat = a by omega, q3, hj]
    exact h
  refine zs_115 (fun g => ⟨fun z => (nomatch z), fun _ => ⟨fun _ => ⟨by omega, fun g2 => ?_, fun g2 => ⟨⟨hr, g2⟩, fun m7 q7 => ?_⟩⟩, fun z => by omega⟩⟩) (fun g => absurd (by omega) g)
  · rw [t.2.1, t.2.2.1]
    refine c m ?_
    unfold zpu
    rw [if_neg (by omega)]
  · rw [t.2.1, t.2.2.1] at q7
    rw [t.2.1, t.2.2.1]
    refine c m7 ?_
    unfold zpu
    rw [if_pos g2, q7, zf_u1 (by decide)]
end
theorem zwhere : ∀ a, a < 7 → ∀ v, v < 3 → zbd a v = 0 ∨ 3 * a + v ∈ [0, 1, 2, 3, 7, 10, 12, 14, 17, 18, 19] := by decide
theorem znz : ∀ k, k < 7 → ∀ v, v < 3 → zbd (zat v 7 k) v ≠ 0 := by decide
/-- from a kind on, a move: its answer, its bodies -/
theorem zmv_4 {own : Nat} (ho : own < 7) {num tra : Int32} : ∀ (n : Nat) {k v : Nat} {x d r : Int32} {l : List Nat} {m : zf_Me} {Q : Int32 → zf_Me → Prop}, k < 7 → v < 3 → 0 ≤ d.toInt → d.toInt + n ≤ 41 → m.1 44 2 = Int32.ofNat own → m.1 44 3 = num → m.1 44 4 = tra → zbd (zat v 7 k) v ≠ 0 → zfrm own num tra n k v x = some (r, l) → 0 ≤ (m.1 44 1).toInt → (m.1 44 1).toInt + l.length ≤ 1000000 → Q r (zpus m l) → wp_4 n (Int32.ofNat k) (Int32.ofNat v) x d m Q := by
  intro n
  induction n with
  | zero =>
    intro k v x d r l m Q _ _ _ _ _ _ _ _ h
    cases h
  | succ n ih =>
    intro k v x d r l m Q hk hv hd hdn o2 o3 o4 hnz h hr hl hq
    have e1 : (1 : Int32).toInt = 1 := rfl
    show wb_4 (wp_4 n) (Int32.ofNat k) (Int32.ofNat v) x d m Q
    refine ⟨8, zmv_6 hv 7 8 k 0 hk (by decide) (by decide) (by decide) (zmv_48 hv (zat_lt v hv 7 k hk) (by omega) hr ?_)⟩
    have sd := fb_addI (x := d) (y := 1) (by omega) (by omega)
    replace h : zfb (zfrm own num tra n) own num tra (zat v 7 k) (zbd (zat v 7 k) v) x = some (r, l) := h
    obtain ⟨a, ha⟩ : ∃ a, a = zat v 7 k := ⟨_, rfl⟩
    have ha7 : a < 7 := by rw [ha]; exact zat_lt v hv 7 k hk
    rw [← ha] at h hnz ⊢
    -- what a deeper one leaves
    have go : ∀ {k2 v2 : Nat} {x2 r2 : Int32} {l2 : List Nat} {mj : zf_Me} {Q2 : Int32 → zf_Me → Prop}, k2 < 7 → v2 < 3 → mj.1 44 2 = Int32.ofNat own → mj.1 44 3 = num → mj.1 44 4 = tra → zfrm own num tra n k2 v2 x2 = some (r2, l2) → 0 ≤ (mj.1 44 1).toInt → (mj.1 44 1).toInt + l2.length ≤ 1000000 → Q2 r2 (zpus mj l2) → wp_4 n (Int32.ofNat k2) (Int32.ofNat v2) x2 (d + 1) mj Q2 := by
      intro k2 v2 x2 r2 l2 mj Q2 h1 h2 h3 h4 h5 h6 h7 h8 h9
      refine ih h1 h2 (by omega) (by omega) h3 h4 h5 ?_ h6 h7 h8 h9
      exact znz k2 h1 v2 h2
    have pr : ∀ b, (zpu m b).1 44 1 = m.1 44 1 + 1 := fun b => zpu_r
    have pi : ∀ (b : Nat) {l2 : List Nat}, l.length = l2.length + 1 → 0 ≤ ((zpu m b).1 44 1).toInt ∧ ((zpu m b).1 44 1).toInt + l2.length ≤ 1000000 := fun b l2 hl2 => by
      have s1 := fb_addI (x := m.1 44 1) (y := 1) (by omega) (by omega)
      rw [pr b, s1]
      omega
    have k2 : ∀ b, (zpu m b).1 44 2 = Int32.ofNat own := fun b => (zpu_k (by decide)).trans o2
    have k3 : ∀ b, (zpu m b).1 44 3 = num := fun b => (zpu_k (by decide)).trans o3
    have k4 : ∀ b, (zpu m b).1 44 4 = tra := fun b => (zpu_k (by decide)).trans o4
    have wh := (zwhere a ha7 v hv).resolve_left hnz
    simp only [List.mem_cons, List.not_mem_nil, or_false] at wh
    rcases wh with wh | wh | wh | wh | wh | wh | wh | wh | wh | wh | wh
    · obtain ⟨rfl, rfl⟩ : a = 0 ∧ v = 0 := by omega
      replace h : some (x + num, [10]) = some (r, l) := h
      cases h
      have q : Q (x + (zpu m 10).1 44 3) (zpu m 10) := by rw [k3 10]; exact hq
      exact ⟨fun _ => q, fun z => absurd z (by decide), fun z => absurd z (by decide), fun z => absurd z (by decide), fun z => absurd z (by decide), fun z => absurd z (by decide), fun z => absurd z (by decide), fun z => absurd z (by decide), fun z => absurd z (by decide), fun z => absurd z (by decide), fun z => absurd rfl z.1⟩
    · obtain ⟨rfl, rfl⟩ : a = 0 ∧ v = 1 := by omega
      replace h : (zfrm own num tra n own 0 x).map (fun r => (r.1 * 2, 11 :: r.2)) = some (r, l) := h
      obtain ⟨⟨r1, l1⟩, h1, h2⟩ := Option.map_eq_some_iff.mp h
      cases h2
      have ll : (11 :: l1).length = l1.length + 1 := rfl
      have p := pi 11 ll
      have q : wp_4 n ((zpu m 11).1 44 2) 0 x (d + 1) (zpu m 11) (fun x1 m2 => Q (x1 * 2) m2) := by
        rw [k2 11]
        refine go (k2 := own) (v2 := 0) ho (by decide) (k2 11) (k3 11) (k4 11) h1 p.1 p.2 ?_
        exact hq
      exact ⟨fun z => absurd z (by decide), fun _ => q, fun z => absurd z (by decide), fun z => absurd z (by decide), fun z => absurd z (by decide), fun z => absurd z (by decide), fun z => absurd z (by decide), fun z => absurd z (by decide), fun z => absurd z (by decide), fun z => absurd z (by decide), fun z => absurd rfl z.2.1⟩
    · obtain ⟨rfl, rfl⟩ : a = 0 ∧ v = 2 := by omega
      replace h : (zfrm own num tra n own 1 x).bind (fun r => (zfrm own num tra n own 0 (x - tra)).map (fun q => (r.1 ^^^ q.1, 12 :: (r.2 ++ q.2)))) = some (r, l) := h
      obtain ⟨⟨r1, l1⟩, h1, h2⟩ := Option.bind_eq_some_iff.mp h
      obtain ⟨⟨r2, l2⟩, h3, h4⟩ := Option.map_eq_some_iff.mp h2
      cases h4
      have ll : (12 :: (l1 ++ l2)).length = (l1 ++ l2).length + 1 := rfl
      have la : (l1 ++ l2).length = l1.length + l2.length := List.length_append
      have p := pi 12 ll
      have q : wp_4 n ((zpu m 12).1 44 2) 1 x (d + 1) (zpu m 12) (fun x3 m4 => wp_4 n (m4.1 44 2) 0 (x - m4.1 44 4) (d + 1) m4 (fun x5 m6 => Q (x3 ^^^ x5) m6)) := by
        rw [k2 12]
        refine go (k2 := own) (v2 := 1) ho (by decide) (k2 12) (k3 12) (k4 12) h1 p.1 (by omega) ?_
        have z1 : (zpus (zpu m 12) l1).1 44 2 = Int32.ofNat own := (zpus_k l1 (by decide)).trans (k2 12)
        have z3 : (zpus (zpu m 12) l1).1 44 4 = tra := (zpus_k l1 (by decide)).trans (k4 12)
        have zr := zpus_r l1 p.1 (by omega)
        show wp_4 n ((zpus (zpu m 12) l1).1 44 2) 0 (x - (zpus (zpu m 12) l1).1 44 4) (d + 1) (zpus (zpu m 12) l1) _
        rw [z1, z3]
        refine go (k2 := own) (v2 := 0) ho (by decide) z1 ((zpus_k l1 (by decide)).trans (k3 12)) z3 h3 (by omega) (by omega) ?_
        show Q (r1 ^^^ r2) (zpus (zpus (zpu m 12) l1) l2)
        rw [← zpus_app]
        exact hq
      exact ⟨fun z => absurd z (by decide), fun z => absurd z (by decide), fun _ => q, fun z => absurd z (by decide), fun z => absurd z (by decide), fun z => absurd z (by decide), fun z => absurd z (by decide), fun z => absurd z (by decide), fun z => absurd z (by decide), fun z => absurd z (by decide), fun z => absurd rfl z.2.2.1⟩
    · obtain ⟨rfl, rfl⟩ : a = 1 ∧ v = 0 := by omega
      replace h : (zfrm own num tra n (zab 1) 0 x).map (fun r => (r.1 + tra, 20 :: r.2)) = some (r, l) := h
      obtain ⟨⟨r1, l1⟩, h1, h2⟩ := Option.map_eq_some_iff.mp h
      cases h2
      have ll : (20 :: l1).length = l1.length + 1 := rfl
      have p := pi 20 ll
      have q : wp_4 n ((zx_sa.getD 0 []).getD 1 0) 0 x (d + 1) (zpu m 20) (fun x7 m8 => Q (x7 + (m8.1 44 4)) m8) := by
        refine go (k2 := (zab 1)) (v2 := 0) (by decide) (by decide) (k2 20) (k3 20) (k4 20) h1 p.1 p.2 ?_
        show Q (r1 + (zpus (zpu m 20) l1).1 44 4) _
        rw [zpus_k l1 (by decide), k4 20]
        exact hq
      exact ⟨fun z => absurd z (by decide), fun z => absurd z (by decide), fun z => absurd z (by decide), fun _ => q, fun z => absurd z (by decide), fun z => absurd z (by decide), fun z => absurd z (by decide), fun z => absurd z (by decide), fun z => absurd z (by decide), fun z => absurd z (by decide), fun z => absurd rfl z.2.2.2.1⟩
    · obtain ⟨rfl, rfl⟩ : a = 2 ∧ v = 1 := by omega
      replace h : (zfrm own num tra n (zab 2) 1 x).map (fun r => (r.1 * 3, 30 :: r.2)) = some (r, l) := h
      obtain ⟨⟨r1, l1⟩, h1, h2⟩ := Option.map_eq_some_iff.mp h
      cases h2
      have ll : (30 :: l1).length = l1.length + 1 := rfl
      have p := pi 30 ll
      have q : wp_4 n ((zx_sa.getD 0 []).getD 2 0) 1 x (d + 1) (zpu m 30) (fun x9 m10 => Q (x9 * 3) m10) := by
        refine go (k2 := (zab 2)) (v2 := 1) (by decide) (by decide) (k2 30) (k3 30) (k4 30) h1 p.1 p.2 ?_
        exact hq
      exact ⟨fun z => absurd z (by decide), fun z => absurd z (by decide), fun z => absurd z (by decide), fun z => absurd z (by decide), fun _ => q, fun z => absurd z (by decide), fun z => absurd z (by decide), fun z => absurd z (by decide), fun z => absurd z (by decide), fun z => absurd z (by decide), fun z => absurd rfl z.2.2.2.2.1⟩
    · obtain ⟨rfl, rfl⟩ : a = 3 ∧ v = 1 := by omega
      replace h : (zfrm own num tra n (zab 3) 1 (x + 1)).map (fun r => (r.1, 40 :: r.2)) = some (r, l) := h
      obtain ⟨⟨r1, l1⟩, h1, h2⟩ := Option.map_eq_some_iff.mp h
      cases h2
      have ll : (40 :: l1).length = l1.length + 1 := rfl
      have p := pi 40 ll
      have q : wp_4 n ((zx_sa.getD 0 []).getD 3 0) 1 (x + 1) (d + 1) (zpu m 40) (fun x11 m12 => Q x11 m12) := by
        refine go (k2 := (zab 3)) (v2 := 1) (by decide) (by decide) (k2 40) (k3 40) (k4 40) h1 p.1 p.2 ?_
        exact hq
      exact ⟨fun z => absurd z (by decide), fun z => absurd z (by decide), fun z => absurd z (by decide), fun z => absurd z (by decide), fun z => absurd z (by decide), fun _ => q, fun z => absurd z (by decide), fun z => absurd z (by decide), fun z => absurd z (by decide), fun z => absurd z (by decide), fun z => absurd rfl z.2.2.2.2.2.1⟩
    · obtain ⟨rfl, rfl⟩ : a = 4 ∧ v = 0 := by omega
      replace h : (zfrm own num tra n (zab 4) 0 x).map (fun r => (r.1 - num, 51 :: r.2)) = some (r, l) := h
      obtain ⟨⟨r1, l1⟩, h1, h2⟩ := Option.map_eq_some_iff.mp h
      cases h2
      have ll : (51 :: l1).length = l1.length + 1 := rfl
      have p := pi 51 ll
      have q : wp_4 n ((zx_sa.getD 0 []).getD 4 0) 0 x (d + 1) (zpu m 51) (fun x15 m16 => Q (x15 - (m16.1 44 3)) m16) := by
        refine go (k2 := (zab 4)) (v2 := 0) (by decide) (by decide) (k2 51) (k3 51) (k4 51) h1 p.1 p.2 ?_
        show Q (r1 - (zpus (zpu m 51) l1).1 44 3) _
        rw [zpus_k l1 (by decide), k3 51]
        exact hq
      exact ⟨fun z => absurd z (by decide), fun z => absurd z (by decide), fun z => absurd z (by decide), fun z => absurd z (by decide), fun z => absurd z (by decide), fun z => absurd z (by decide), fun z => absurd z (by decide), fun _ => q, fun z => absurd z (by decide), fun z => absurd z (by decide), fun z => absurd rfl z.2.2.2.2.2.2.2.1⟩
    · obtain ⟨rfl, rfl⟩ : a = 4 ∧ v = 2 := by omega
      replace h : (zfrm own num tra n (zab 4) 2 x).map (fun r => (-r.1, 50 :: r.2)) = some (r, l) := h
      obtain ⟨⟨r1, l1⟩, h1, h2⟩ := Option.map_eq_some_iff.mp h
      cases h2
      have ll : (50 :: l1).length = l1.length + 1 := rfl
      have p := pi 50 ll
      have q : wp_4 n ((zx_sa.getD 0 []).getD 4 0) 2 x (d + 1) (zpu m 50) (fun x13 m14 => Q (-x13) m14) := by
        refine go (k2 := (zab 4)) (v2 := 2) (by decide) (by decide) (k2 50) (k3 50) (k4 50) h1 p.1 p.2 ?_
        exact hq
      exact ⟨fun z => absurd z (by decide), fun z => absurd z (by decide), fun z => absurd z (by decide), fun z => absurd z (by decide), fun z => absurd z (by decide), fun z => absurd z (by decide), fun _ => q, fun z => absurd z (by decide), fun z => absurd z (by decide), fun z => absurd z (by decide), fun z => absurd rfl z.2.2.2.2.2.2.1⟩
    · obtain ⟨rfl, rfl⟩ : a = 5 ∧ v = 2 := by omega
      replace h : (zfrm own num tra n (zab 5) 2 x).map (fun r => (r.1 ^^^ 5, 60 :: r.2)) = some (r, l) := h
      obtain ⟨⟨r1, l1⟩, h1, h2⟩ := Option.map_eq_some_iff.mp h
      cases h2
      have ll : (60 :: l1).length = l1.length + 1 := rfl
      have p := pi 60 ll
      have q : wp_4 n ((zx_sa.getD 0 []).getD 5 0) 2 x (d + 1) (zpu m 60) (fun x17 m18 => Q (x17 ^^^ 5) m18) := by
        refine go (k2 := (zab 5)) (v2 := 2) (by decide) (by decide) (k2 60) (k3 60) (k4 60) h1 p.1 p.2 ?_
        exact hq
      exact ⟨fun z => absurd z (by decide), fun z => absurd z (by decide), fun z => absurd z (by decide), fun z => absurd z (by decide), fun z => absurd z (by decide), fun z => absurd z (by decide), fun z => absurd z (by decide), fun z => absurd z (by decide), fun _ => q, fun z => absurd z (by decide), fun z => absurd rfl z.2.2.2.2.2.2.2.2.1⟩
    · obtain ⟨rfl, rfl⟩ : a = 6 ∧ v = 0 := by omega
      replace h : (zfrm own num tra n (zab 6) 0 x).map (fun r => (r.1 * 2, 70 :: r.2)) = some (r, l) := h
      obtain ⟨⟨r1, l1⟩, h1, h2⟩ := Option.map_eq_some_iff.mp h
      cases h2
      have ll : (70 :: l1).length = l1.length + 1 := rfl
      have p := pi 70 ll
      have q : wp_4 n ((zx_sa.getD 0 []).getD 6 0) 0 x (d + 1) (zpu m 70) (fun x19 m20 => Q (x19 * 2) m20) := by
        refine go (k2 := (zab 6)) (v2 := 0) (by decide) (by decide) (k2 70) (k3 70) (k4 70) h1 p.1 p.2 ?_
        exact hq
      exact ⟨fun z => absurd z (by decide), fun z => absurd z (by decide), fun z => absurd z (by decide), fun z => absurd z (by decide), fun z => absurd z (by decide), fun z => absurd z (by decide), fun z => absurd z (by decide), fun z => absurd z (by decide), fun z => absurd z (by decide), fun _ => q, fun z => absurd rfl z.2.2.2.2.2.2.2.2.2⟩
    · obtain ⟨rfl, rfl⟩ : a = 6 ∧ v = 1 := by omega
      replace h : (zfrm own num tra n (zab 6) 1 (x - tra)).map (fun r => (r.1, 71 :: r.2)) = some (r, l) := h
      obtain ⟨⟨r1, l1⟩, h1, h2⟩ := Option.map_eq_some_iff.mp h
      cases h2
      have ll : (71 :: l1).length = l1.length + 1 := rfl
      have p := pi 71 ll
      have q : wp_4 n ((zx_sa.getD 0 []).getD 6 0) 1 (x - ((zpu m 71).1 44 4)) (d + 1) (zpu m 71) (fun x21 m22 => Q x21 m22) := by
        rw [k4 71]
        refine go (k2 := (zab 6)) (v2 := 1) (by decide) (by decide) (k2 71) (k3 71) (k4 71) h1 p.1 p.2 ?_
        exact hq
      exact ⟨fun z => absurd z (by decide), fun z => absurd z (by decide), fun z => absurd z (by decide), fun z => absurd z (by decide), fun z => absurd z (by decide), fun z => absurd z (by decide), fun z => absurd z (by decide), fun z => absurd z (by decide), fun z => absurd z (by decide), fun z => absurd z (by decide), fun _ => q⟩
theorem zmv_ex (own : Nat) (ho : own < 7) (v : Nat) (hv : v < 3) (num tra x : Int32) : ∃ r l, zfrm own num tra 8 own v x = some (r, l) ∧ l.length ≤ 20 := by
  match own, ho, v, hv with
  | 0, _, 0, _ => exact ⟨_, _, rfl, Nat.le_of_ble_eq_true rfl⟩
  | 0, _, 1, _ => exact ⟨_, _, rfl, Nat.le_of_ble_eq_true rfl⟩
  | 0, _, 2, _ => exact ⟨_, _, rfl, Nat.le_of_ble_eq_true rfl⟩
  | 1, _, 0, _ => exact ⟨_, _, rfl, Nat.le_of_ble_eq_true rfl⟩
  | 1, _, 1, _ => exact ⟨_, _, rfl, Nat.le_of_ble_eq_true rfl⟩
  | 1, _, 2, _ => exact ⟨_, _, rfl, Nat.le_of_ble_eq_true rfl⟩
  | 2, _, 0, _ => exact ⟨_, _, rfl, Nat.le_of_ble_eq_true rfl⟩
  | 2, _, 1, _ => exact ⟨_, _, rfl, Nat.le_of_ble_eq_true rfl⟩
  | 2, _, 2, _ => exact ⟨_, _, rfl, Nat.le_of_ble_eq_true rfl⟩
  | 3, _, 0, _ => exact ⟨_, _, rfl, Nat.le_of_ble_eq_true rfl⟩
  | 3, _, 1, _ => exact ⟨_, _, rfl, Nat.le_of_ble_eq_true rfl⟩
  | 3, _, 2, _ => exact ⟨_, _, rfl, Nat.le_of_ble_eq_true rfl⟩
  | 4, _, 0, _ => exact ⟨_, _, rfl, Nat.le_of_ble_eq_true rfl⟩
  | 4, _, 1, _ => exact ⟨_, _, rfl, Nat.le_of_ble_eq_true rfl⟩
  | 4, _, 2, _ => exact ⟨_, _, rfl, Nat.le_of_ble_eq_true rfl⟩
  | 5, _, 0, _ => exact ⟨_, _, rfl, Nat.le_of_ble_eq_true rfl⟩
  | 5, _, 1, _ => exact ⟨_, _, rfl, Nat.le_of_ble_eq_true rfl⟩
  | 5, _, 2, _ => exact ⟨_, _, rfl, Nat.le_of_ble_eq_true rfl⟩
  | 6, _, 0, _ => exact ⟨_, _, rfl, Nat.le_of_ble_eq_true rfl⟩
  | 6, _, 1, _ => exact ⟨_, _, rfl, Nat.le_of_ble_eq_true rfl⟩
  | 6, _, 2, _ => exact ⟨_, _, rfl, Nat.le_of_ble_eq_true rfl⟩
def zmv (own v : Nat) (num tra x : Int32) : Int32 × List Nat := (zfrm own num tra 8 own v x).getD (0, [])
theorem zmv_eq {own v : Nat} (ho : own < 7) (hv : v < 3) (num tra x : Int32) : zfrm own num tra 8 own v x = some (zmv own v num tra x) ∧ (zmv own v num tra x).2.length ≤ 20 := by
  obtain ⟨r, l, h, k⟩ := zmv_ex own ho v hv num tra x
  unfold zmv
  rw [h]
  exact ⟨rfl, k⟩
section
variable {m : zf_Me}
/-- the memory behind a move -/
def zmb (m : zf_Me) (k p a : Int32) : zf_Me := zf_u (zf_u (zf_u (zf_u m 44 1 0) 44 2 k) 44 3 p) 44 4 a
theorem zs_2 {p v x : Int32} (hp : 0 ≤ p.toInt ∧ p.toInt < 6) (hv : 0 ≤ v.toInt ∧ v.toInt < 3) (hk : 0 ≤ (m.1 6 p.toInt.toNat).toInt ∧ (m.1 6 p.toInt.toNat).toInt ≤ 6) {Q : Int32 → zf_Me → Prop} (hq : Q (zmv (m.1 6 p.toInt.toNat).toInt.toNat v.toInt.toNat p (m.1 7 p.toInt.toNat) x).1 (zpus (zmb m (m.1 6 p.toInt.toNat) p (m.1 7 p.toInt.toNat)) (zmv (m.1 6 p.toInt.toNat).toInt.toNat v.toInt.toNat p (m.1 7 p.toInt.toNat) x).2)) : wp_2 3 p v x m Q := by
  intro m2 q2
  refine ⟨hp, fun m3 q3 m5 q5 => ⟨hp, fun m7 q7 => ?_⟩⟩
  have c6 : m2.1 6 = m.1 6 := by rw [q2]; exact zf_u1 (by decide)
  have c7 : m5.1 7 = m.1 7 := by rw [q5, zf_u1 (by decide), q3, zf_u1 (by decide), q2, zf_u1 (by decide)]
  have e7 : m7 = zmb m (m.1 6 p.toInt.toNat) p (m.1 7 p.toInt.toNat) := by
    rw [q7, c7, q5, q3, c6, q2]
    rfl
  have ek : m7.1 44 2 = m.1 6 p.toInt.toNat := by rw [q7, zf_u4 (by decide), q5, zf_u4 (by decide), q3, zf_u3, c6]
  have e3 : m7.1 44 3 = p := by rw [q7, zf_u4 (by decide), q5, zf_u3]
  have e4 : m7.1 44 4 = m.1 7 p.toInt.toNat := by rw [q7, zf_u3, c7]
  have er : m7.1 44 1 = 0 := by rw [q7, zf_u4 (by decide), q5, zf_u4 (by decide), q3, zf_u4 (by decide), q2, zf_u3]
  have ev : v = Int32.ofNat v.toInt.toNat := zn_of _ _ (by omega)
  have eK : m.1 6 p.toInt.toNat = Int32.ofNat (m.1 6 p.toInt.toNat).toInt.toNat := zn_of _ _ (by omega)
  have ok := zmv_eq (own := (m.1 6 p.toInt.toNat).toInt.toNat) (v := v.toInt.toNat) (by omega) (by omega) p (m.1 7 p.toInt.toNat) x
  refine ⟨8, by decide, ?_⟩
  have h4 := zmv_4 (own := (m.1 6 p.toInt.toNat).toInt.toNat) (by omega) (num := p) (tra := m.1 7 p.toInt.toNat) 8 (k := (m.1 6 p.toInt.toNat).toInt.toNat) (v := v.toInt.toNat) (x := x) (d := 0) (m := m7) (Q := Q) (by omega) (by omega) (by decide) (by decide) (ek.trans eK) e3 e4 (znz _ (by omega) _ (by omega)) ok.1 (by rw [er]; decide) (by rw [er]; have := ok.2; show (0 : Int) + ((zmv (m.1 6 p.toInt.toNat).toInt.toNat v.toInt.toNat p (m.1 7 p.toInt.toNat) x).2.length : Int) ≤ 1000000; omega) (by rw [e7]; exact hq)
  rw [← eK, ← ev] at h4
  rw [ek]
  exact h4
end
end
