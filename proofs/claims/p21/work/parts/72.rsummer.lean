/-! part 72: the reference's summers, exactly -/
theorem zaux1 {a : Int} (h0 : 0 ≤ a) (h1 : ¬ a = 0) : 0 ≤ a + -1 := by omega
theorem zaux2 {a : Int} {c d : Nat} (h : a < c) (e : c = 1 + d) : a + -1 < d := by omega
theorem zaux3 {a : Int} {c d : Nat} (h : a < c) (e : c = 0 + d) : a < d := by omega
theorem zaux6 {v : Int32} (h : 0 ≤ v.toInt) : (v + (-1)).toInt = v.toInt + -1 := by
  have en : (-1 : Int32).toInt = -1 := rfl
  have r := fb_rng v
  have s := fb_addI (x := v) (y := -1) (by omega) (by omega)
  rw [en] at s
  exact s
section
variable {m : zf_Me}
theorem zcnt_s {f : zS} {n i : Nat} : zcnt f (n + 1) i = (if zmay f i then 1 else 0) + zcnt f n (i + 1) := rfl
theorem zpick_s {f : zS} {n i : Nat} {left : Int} : zpick f (n + 1) i left = if zmay f i then (if left = 0 then ((i : Nat) : Int) else zpick f n (i + 1) (left - 1)) else zpick f n (i + 1) left := rfl
theorem zcnt_b (f : zS) : (zbits f 10 = 0 → zcnt f 10 0 = 0) ∧ (¬ zbits f 10 = 0 → 0 < zcnt f 10 0) ∧ zcnt f 10 0 ≤ 10 := by
  have c := zbc_ok (zbits f 10) (zbits_lt f 10)
  have p := zpcr_cnt f 10 0 (by decide)
  rw [p] at c
  refine ⟨fun e => ?_, c.2.1, c.2.2⟩
  rw [e] at p
  rw [← p]
  rfl
theorem zbt_i {N k : Nat} {v4 v7 : Int32} (hN : N < 1024) (h4 : v4 = Int32.ofNat N) (hk : k < 10) (h7 : v7.toInt = k) : (((v4 >>> (v7 &&& 31)) &&& 1)).toInt = (if N.testBit k = true then 1 else 0) := by
  have e7 : v7 = Int32.ofNat k := zn_of _ _ h7
  have a := zand1 (v4 >>> (v7 &&& 31))
  rw [h4, e7] at a ⊢
  have t := zbt_ok N hN k hk
  cases h : N.testBit k with
  | true =>
    have n : ¬ ((((Int32.ofNat N) >>> ((Int32.ofNat k) &&& 31)) &&& 1)).toInt = 0 := fun z => by rw [t.mp z] at h; cases h
    rw [if_pos rfl]
    generalize ((((Int32.ofNat N) >>> ((Int32.ofNat k) &&& 31)) &&& 1)).toInt = x at a n ⊢
    omega
  | false =>
    rw [if_neg (by decide)]
    exact t.mpr h
/-- the draw among N's bits, over what may be -/
theorem zs_sumR (hB : zB (zr m)) {v1 : Int32} {F : Int32 → Int32 → zf_Me → Prop} {Q : Int32 → zf_Me → Prop} {v2 v3 : Int32} (hF : ∀ m', zgc m m' → zr m' = zsum1 (zr m) → F v2 (v3 + 1) m') : wp_173 m (fun x3 m4 => (∃ n42, wq_199_42 v1 F Q n42 v2 v3 x3 0 0 m4)) := by
  have e1 : (1 : Int32).toInt = 1 := rfl
  have en : (-1 : Int32).toInt = -1 := rfl
  refine zs_173 hB ?_
  have cb := zcnt_b (zr m)
  have s1 : zbits (zr m) 10 = 0 → zsum1 (zr m) = zr m := fun e => if_pos e
  have s2 : ¬ zbits (zr m) 10 = 0 → zsum1 (zr m) = zact (zU (zr m) 5 12 (znexts (zr m 5 12))) (zpick (zr m) 10 0 (zup (znexts (zr m 5 12)) % zcnt (zr m) 10 0)) := fun e => if_neg e
  obtain ⟨N, lN, eN, tN, cb, s1, s2⟩ : ∃ N, N < 1024 ∧ Int32.ofNat (zbits (zr m) 10) = Int32.ofNat N ∧ (∀ k, k < 10 → (N.testBit k = true ↔ zmay (zr m) ((k : Nat) : Int))) ∧ ((N = 0 → zcnt (zr m) 10 0 = 0) ∧ (¬ N = 0 → 0 < zcnt (zr m) 10 0) ∧ zcnt (zr m) 10 0 ≤ 10) ∧ (N = 0 → zsum1 (zr m) = zr m) ∧ (¬ N = 0 → zsum1 (zr m) = zact (zU (zr m) 5 12 (znexts (zr m 5 12))) (zpick (zr m) 10 0 (zup (znexts (zr m 5 12)) % zcnt (zr m) 10 0))) := ⟨zbits (zr m) 10, zbits_lt _ 10, rfl, fun k hk => zbits_test (zr m) k 10 hk, cb, s1, s2⟩
  rw [eN]
  clear eN
  have lp86 : ∀ (j : Nat) (v6 v7 : Int32) (mi : zf_Me), 0 ≤ v7.toInt → v7.toInt ≤ 10 → 10 - v7.toInt < j → zgc m mi → (0 ≤ v6.toInt → ¬ N = 0 ∧ zr mi = zU (zr m) 5 12 (znexts (zr m 5 12)) ∧ v6.toInt < zcnt (zr m) (10 - v7.toInt.toNat) v7.toInt.toNat ∧ zpick (zr m) (10 - v7.toInt.toNat) v7.toInt.toNat v6.toInt = zpick (zr m) 10 0 (zup (znexts (zr m 5 12)) % zcnt (zr m) 10 0)) → (v6.toInt < 0 → zr mi = zsum1 (zr m)) → wq_199_86 v1 F Q j v2 v3 (Int32.ofNat N) v6 v7 mi := by
    intro j
    induction j with
    | zero => intro v6 v7 mi k0 k1 k2; omega
    | succ j ij =>
      intro v6 v7 mi k0 k1 k2 kf ka kb
      by_cases g6 : v6.toInt < 0
      · exact ⟨fun _ => hF mi kf (kb g6), fun _ => ⟨fun _ => hF mi kf (kb g6), fun z => absurd g6 (Int.not_lt.mpr z)⟩⟩
      · have pos : 0 ≤ v6.toInt := Int.not_lt.mp g6
        have a := ka pos
        have g9 : v7.toInt ≤ 9 := by
          refine Decidable.byContradiction fun z => ?_
          have c := a.2.2.1
          rw [show 10 - v7.toInt.toNat = 0 by omega] at c
          have : ((zcnt (zr m) 0 v7.toInt.toNat : Nat) : Int) = 0 := rfl
          omega
        have s7 := fb_addI (x := v7) (y := 1) (by omega) (by omega)
        have s6 := zaux6 pos
        have n7 : 0 ≤ (v7 + 1).toInt ∧ (v7 + 1).toInt ≤ 10 ∧ 10 - (v7 + 1).toInt < j := by omega
        have e7 : v7.toInt = ((v7.toInt.toNat : Nat) : Int) := by omega
        have l7 : v7.toInt.toNat < 10 := by omega
        have p7 : (v7 + 1).toInt.toNat = v7.toInt.toNat + 1 := by omega
        have q7 : 10 - v7.toInt.toNat = (10 - (v7 + 1).toInt.toNat) + 1 := by omega
        have cs := zcnt_s (f := zr m) (n := 10 - (v7 + 1).toInt.toNat) (i := v7.toInt.toNat)
        have ps := zpick_s (f := zr m) (n := 10 - (v7 + 1).toInt.toNat) (i := v7.toInt.toNat) (left := v6.toInt)
        rw [← q7, ← p7] at cs ps
        refine ⟨fun z => absurd g9 (by omega), fun _ => ⟨fun z => absurd z g6, fun _ => ⟨fun gb => ?_, fun gb => ?_⟩⟩⟩
        · have bi := zbt_i lN rfl l7 e7
          have hbit : N.testBit v7.toInt.toNat = true := by
            cases h : N.testBit v7.toInt.toNat with
            | true => rfl
            | false =>
              rw [h] at bi
              exact absurd bi gb
          clear bi gb
          have hm := (tN _ l7).mp hbit
          rw [if_pos hm] at cs ps
          refine ⟨fun n0 => ij _ _ mi n7.1 n7.2.1 n7.2.2 kf (fun _ => ?_) (fun z => ?_), fun z0 => ?_⟩
          · rw [if_neg n0] at ps
            rw [s6]
            refine ⟨a.1, a.2.1, zaux2 a.2.2.1 cs, ?_⟩
            · rw [show v6.toInt + -1 = v6.toInt - 1 from rfl, ← ps]
              exact a.2.2.2
          · rw [s6] at z
            exact absurd (zaux1 pos n0) (Int.not_le.mpr z)
          · rw [if_pos z0] at ps
            have hp : zpick (zr m) 10 0 (zup (znexts (zr m 5 12)) % zcnt (zr m) 10 0) = v7.toInt := by
              rw [← a.2.2.2, ps]
              exact e7.symm
            have hm' : zmay (zr mi) v7.toInt := by
              rw [a.2.1, e7]
              exact hm
            have bi : zB (zr mi) := by
              rw [a.2.1]
              exact zB_next hB
            refine zs_169 bi ⟨k0, g9⟩ hm' (fun m8 z8 f8 => ij _ _ m8 n7.1 n7.2.1 n7.2.2 (zgr_trans kf f8) (fun z => ?_) (fun _ => ?_))
            · rw [s6, z0] at z
              exact absurd z (by decide)
            · rw [z8, s2 a.1, hp, a.2.1]
        · have bi := zbt_i lN rfl l7 e7
          have hbit : ¬ N.testBit v7.toInt.toNat = true := fun h => by
            rw [h, if_pos rfl, gb] at bi
            exact absurd bi (by decide)
          clear bi gb
          have hm : ¬ zmay (zr m) ((v7.toInt.toNat : Nat) : Int) := fun z => hbit ((tN _ l7).mpr z)
          rw [if_neg hm] at cs ps
          refine ij _ _ mi n7.1 n7.2.1 n7.2.2 kf (fun _ => ⟨a.1, a.2.1, zaux3 a.2.2.1 cs, ?_⟩) (fun z => absurd z g6)
          · rw [← ps]
            exact a.2.2.2
  have lp42 : ∀ (j : Nat) (v5 v6 : Int32), 0 ≤ v6.toInt → v6.toInt ≤ 10 → 10 - v6.toInt < j → 0 ≤ v5.toInt → v5.toInt + zcnt (zr m) (10 - v6.toInt.toNat) v6.toInt.toNat = zcnt (zr m) 10 0 → wq_199_42 v1 F Q j v2 v3 (Int32.ofNat N) v5 v6 m := by
    intro j
    induction j with
    | zero => intro v5 v6 k0 k1 k2; omega
    | succ j ij =>
      intro v5 v6 k0 k1 k2 k3 k4
      refine ⟨fun g => ?_, fun g => ?_⟩
      · rw [show 10 - v6.toInt.toNat = 0 by omega] at k4
        have z0 : ((zcnt (zr m) 0 v6.toInt.toNat : Nat) : Int) = 0 := rfl
        have c5 : v5.toInt = zcnt (zr m) 10 0 := by omega
        refine ⟨fun g5 => ?_, fun g5 => hF m zgr_refl ?_⟩
        · have nN : ¬ N = 0 := fun z => by have := cb.1 z; omega
          refine zs_198 (by omega) (fun x m6 ex z6 f6 => ⟨12, lp86 12 x 0 m6 (by decide) (by decide) (by decide) f6 (fun _ => ⟨nN, z6, ?_, ?_⟩) (fun z => ?_)⟩)
          · show x.toInt < zcnt (zr m) 10 0
            rw [ex, ← c5]
            exact Int.emod_lt_of_pos _ (by omega)
          · show zpick (zr m) 10 0 x.toInt = _
            rw [ex, c5]
          · have := Int.emod_nonneg (zup (znexts (zr m 5 12))) (show v5.toInt ≠ 0 from g5)
            omega
        · refine (s1 (Decidable.byContradiction fun z => ?_)).symm
          have := cb.2.1 z
          omega
      · have s6 := fb_addI (x := v6) (y := 1) (by omega) (by omega)
        have l6 : v6.toInt.toNat < 10 := by omega
        have n6 : 0 ≤ (v6 + 1).toInt ∧ (v6 + 1).toInt ≤ 10 ∧ 10 - (v6 + 1).toInt < j := by omega
        have p6 : (v6 + 1).toInt.toNat = v6.toInt.toNat + 1 := by omega
        have q6 : 10 - v6.toInt.toNat = (10 - (v6 + 1).toInt.toNat) + 1 := by omega
        have cs := zcnt_s (f := zr m) (n := 10 - (v6 + 1).toInt.toNat) (i := v6.toInt.toNat)
        rw [← q6, ← p6] at cs
        have bi := zbt_i lN (rfl : Int32.ofNat N = Int32.ofNat N) l6 (show v6.toInt = ((v6.toInt.toNat : Nat) : Int) by omega)
        have cB := cb.2.2
        by_cases h : N.testBit v6.toInt.toNat = true
        · rw [if_pos ((tN _ l6).mp h)] at cs
          rw [if_pos h] at bi
          generalize ((Int32.ofNat N) >>> (v6 &&& 31)) &&& 1 = y at bi ⊢
          have s5 := fb_addI (x := v5) (y := y) (by omega) (by omega)
          exact ij _ _ n6.1 n6.2.1 n6.2.2 (by omega) (by omega)
        · rw [if_neg (fun z => h ((tN _ l6).mpr z))] at cs
          rw [if_neg h] at bi
          generalize ((Int32.ofNat N) >>> (v6 &&& 31)) &&& 1 = y at bi ⊢
          have s5 := fb_addI (x := v5) (y := y) (by omega) (by omega)
          exact ij _ _ n6.1 n6.2.1 n6.2.2 (by omega) (by omega)
  exact ⟨12, lp42 12 0 0 (by decide) (by decide) (by decide) (by decide) (by show (0 : Int) + zcnt (zr m) 10 0 = _; omega)⟩
theorem zY_199 (hJ : JM m) {n : Int32} {Q : Int32 → zf_Me → Prop} (K : ∀ x m', zgQ m m' → x.toInt = (zN101 (zr m) n.toInt).1 → zr m' = (zN101 (zr m) n.toInt).2 → Q x m') : wp_199 n m Q := by
  have e1 : (1 : Int32).toInt = 1 := rfl
  refine ⟨fun g => zR_no (by decide) K (if_neg (by omega)), fun g => ⟨fun g2 => ?_, fun g2 => zR_no (by decide) K (if_neg (by omega))⟩⟩
  have lp : ∀ (k : Nat) (v3 : Int32) (mj : zf_Me), 0 ≤ v3.toInt → v3.toInt ≤ n.toInt → n.toInt - v3.toInt < k → zgc m mj → zB (zr mj) → zsumm (zr mj) (n.toInt - v3.toInt).toNat = zsumm (zr m) n.toInt.toNat → wq_199_25 n Q k (m.1 63 10) v3 mj := by
    intro k
    induction k with
    | zero => intro v3 mj h0 h1 h2; omega
    | succ k ih =>
      intro v3 mj h0 h1 h2 hf hb hz
      refine ⟨fun g3 => ?_, fun g3 => zs_sumR hb (fun m' f z => ?_)⟩
      · rw [show (n.toInt - v3.toInt).toNat = 0 by omega] at hz
        have hz' : zr mj = zsumm (zr m) n.toInt.toNat := hz
        refine K _ mj (zgc_q hf) ?_ ?_
        · unfold zN101
          rw [if_pos ⟨g, g2⟩, ← hz']
          have h1 := hJ.1.1
          have h3 := hb.1
          have p1 : zr mj 5 10 = (mj.1 63 10).toInt := rfl
          have p2 : zr m 5 10 = (m.1 63 10).toInt := rfl
          show _ = zr mj 5 10 - zr m 5 10
          rw [p1, p2, fb_subI (by omega) (by omega)]
        · unfold zN101
          rw [if_pos ⟨g, g2⟩]
          exact hz'
      · have s := fb_addI (x := v3) (y := 1) (by omega) (by omega)
        refine ih _ m' (by omega) (by omega) (by omega) (zgr_trans hf f) (by rw [z]; exact zsum1_B hb) ?_
        rw [z, ← hz, show (n.toInt - v3.toInt).toNat = (n.toInt - (v3 + 1).toInt).toNat + 1 by omega]
        rfl
  exact ⟨62, lp 62 0 m (by decide) (by show (0 : Int) ≤ _; omega) (by show n.toInt - 0 < _; omega) zgr_refl hJ.1 (by rw [show (n.toInt - (0 : Int32).toInt) = n.toInt by show n.toInt - 0 = _; omega])⟩
end
