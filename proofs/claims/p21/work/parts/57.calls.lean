/-! part 57: the class's calls that go on trial -/
def zbits (f : zS) : Nat → Nat
  | 0 => 0
  | n + 1 => if zmay f n then zbits f n + 2 ^ n else zbits f n
theorem zbits_lt (f : zS) : ∀ n, zbits f n < 2 ^ n
  | 0 => (by decide : (0 : Nat) < 2 ^ 0)
  | n + 1 => by
    have := zbits_lt f n
    unfold zbits
    rw [Nat.pow_succ]
    split <;> omega
theorem zbits_or : ∀ k, k < 10 → ∀ N, N < 2 ^ k → (Int32.ofNat N ||| ((1 : Int32) <<< ((Int32.ofNat k) &&& 31))) = Int32.ofNat (N + 2 ^ k) := by decide +kernel
theorem zn_of (x : Int32) (k : Nat) (h : x.toInt = k) : x = Int32.ofNat k := by
  apply zi_inj
  have := fb_rng x
  rw [h]
  exact (nI_toInt (by omega)).symm
theorem zbits_test (f : zS) (k : Nat) : ∀ n, k < n → ((zbits f n).testBit k = true ↔ zmay f k) := by
  intro n
  induction n with
  | zero => intro h; omega
  | succ n ih =>
    intro h
    have lt := zbits_lt f n
    by_cases e : k = n
    · subst e
      unfold zbits
      split
      · rename_i g
        rw [Nat.add_comm, Nat.testBit_two_pow_add_eq, Nat.testBit_lt_two_pow lt]
        exact iff_of_true rfl g
      · rename_i g
        rw [Nat.testBit_lt_two_pow lt]
        exact iff_of_false (by decide) g
    · have kn : k < n := by
        clear lt ih
        omega
      unfold zbits
      split
      · rw [Nat.add_comm, Nat.testBit_two_pow_add_gt kn]
        exact ih kn
      · exact ih kn
section
variable {m : zf_Me}
theorem zs_86 (hB : zB (zv 2 3 8 m)) {Q : Int32 → zf_Me → Prop} (hq : Q (Int32.ofNat (zbits (zv 2 3 8 m) 10)) m) : wp_86 m Q := by
  have e1 : (1 : Int32).toInt = 1 := rfl
  have lp : ∀ (n : Nat) (v1 v2 : Int32), 0 ≤ v2.toInt → v2.toInt ≤ 10 → 10 - v2.toInt < n → v1 = Int32.ofNat (zbits (zv 2 3 8 m) v2.toInt.toNat) → wq_86_4 Q n v1 v2 m := by
    intro n
    induction n with
    | zero => intro v1 v2 h0 h1 h2; omega
    | succ n ih =>
      intro v1 v2 h0 h1 h2 h3
      refine ⟨fun g => ?_, fun g => zs_52 hB (fun b hb => ?_)⟩
      · rw [h3, show v2.toInt = 10 by omega]
        exact hq
      · have s := fb_addI (x := v2) (y := 1) (by omega) (by omega)
        have e2 : (v2 + 1).toInt.toNat = v2.toInt.toNat + 1 := by omega
        have ev : v2 = Int32.ofNat v2.toInt.toNat := zn_of _ _ (by omega)
        have ej : ((v2.toInt.toNat : Nat) : Int) = v2.toInt := by omega
        refine ⟨fun e => ih _ _ (by omega) (by omega) (by omega) ?_, fun e => ih _ _ (by omega) (by omega) (by omega) ?_⟩
        · have st : zbits (zv 2 3 8 m) (v2.toInt.toNat + 1) = zbits (zv 2 3 8 m) v2.toInt.toNat := by
            show (if zmay (zv 2 3 8 m) ((v2.toInt.toNat : Nat) : Int) then _ else _) = _
            rw [ej, if_neg (fun z => by rw [hb.mpr z] at e; cases e)]
          rw [h3, e2, st]
        · rw [e2]
          have st : zbits (zv 2 3 8 m) (v2.toInt.toNat + 1) = zbits (zv 2 3 8 m) v2.toInt.toNat + 2 ^ v2.toInt.toNat := by
            show (if zmay (zv 2 3 8 m) ((v2.toInt.toNat : Nat) : Int) then _ else _) = _
            rw [ej, if_pos (hb.mp e)]
          rw [st, ← zbits_or v2.toInt.toNat (by omega) _ (zbits_lt _ _), h3, ← ev]
  exact ⟨12, lp 12 0 0 (by decide) (by decide) (by decide) rfl⟩
theorem zs_119 {a b c d : Int32} {Q : Bool → zf_Me → Prop} (hq : ∀ x, (x = true ↔ (c.toInt < a.toInt ∨ (a.toInt = c.toInt ∧ b.toInt < d.toInt))) → Q x m) : wp_119 a b c d m Q :=
  ⟨fun g => hq true (zb_t (by omega)), fun g => ⟨fun g2 => hq false (zb_f (by omega)), fun g2 => ⟨fun g3 => hq false (zb_f (by omega)), fun g3 => hq true (zb_t (by omega))⟩⟩⟩
-- by rules
theorem zs_now {m m' : zf_Me} (f : zq m m') (hB : zB (zv 2 3 8 m)) : zB (zv 2 3 8 m') := by rw [zq_now f]; exact hB
/-- a rule from the truth, begun and gone to the end -/
theorem zs_go (hB : zB (zv 2 3 8 m)) {rule : Int32} {Q : zf_Me → Prop} (hq : ∀ m', zrs m' = zgo rule.toInt 60 (zbeg (zv 2 3 8 m)) → zfR m m' → Q m') : wp_7 2 3 8 m (fun m4 => wp_8 rule m4 Q) :=
  zs_7 (by decide) hB (fun m4 z4 f4 => zs_8 (by rw [z4]; exact zRB_beg hB) (fun m5 z5 f5 => hq m5 (by rw [z5, z4]) (zfr_trans f4 f5)))
theorem zX_91 (hJ : JX m) {rule w : Int32} {Q : Int32 → zf_Me → Prop} (K : ∀ (v : Int32) (m' : zf_Me), zq m m' → Q v m') : wp_91 rule w m Q := by
  have e1 : (1 : Int32).toInt = 1 := rfl
  have lp : ∀ (n : Nat) (v3 v4 : Int32) (mj : zf_Me), 0 ≤ v4.toInt → v4.toInt ≤ 61 → 61 - v4.toInt < n → zRB (zrs mj) → zq m mj → wq_91_30 rule w Q n v3 v4 mj := by
    intro n
    induction n with
    | zero => intro v3 v4 mj h0 h1 h2; omega
    | succ n ih =>
      intro v3 v4 mj h0 h1 h2 hr hf
      refine ⟨fun _ => K _ mj hf, fun g => ⟨fun _ => K _ mj hf, fun _ => zs_9 hr (fun b m' y1 _ f1 => ⟨fun e => ?_, fun _ => K _ m' (zfr_trans hf (zfR_q f1))⟩)⟩⟩
      have s := fb_addI (x := v4) (y := 1) (by omega) (by omega)
      exact ih _ _ m' (by omega) (by omega) (by omega) (zRB_stp hr (y1 e)) (zfr_trans hf (zfR_q f1))
  exact zs_116 (fun _ => ⟨fun _ => zs_7 (by decide) hJ.1 (fun m4 z4 f4 => ⟨63, lp 63 _ 0 m4 (by decide) (by decide) (by decide) (by rw [z4]; exact zRB_beg hJ.1) (zfR_q f4)⟩), fun z => (nomatch z)⟩) (fun _ => ⟨fun z => (nomatch z), fun _ => zk_110 (by decide) K⟩)
theorem zrs_w {x : zS} {t n w : Int} {m : zf_Me} (h : zrs m = (x, t, n, w)) : zv 19 3 20 m = x ∧ (m.1 18 1).toInt = t ∧ (m.1 18 2).toInt = n ∧ (m.1 18 3).toInt = w := by
  unfold zrs at h
  cases h
  exact ⟨rfl, rfl, rfl, rfl⟩
end
