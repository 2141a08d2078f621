/-! part 57: the class's calls that go on trial -/
def zbits (f : zS) : Nat → Nat
  | 0 => 0
  | n + 1 => if zmay f n then zbits f n + 2 ^ n else zbits f n
theorem zbits_lt (f : zS) : ∀ n, zbits f n < 2 ^ n
  | 0 => (by decide : (0 : Nat) < 2 ^ 0)
  | n + 1 => by
    have := zbits_lt f n
    unfold zbits
    rw [Nat.pow_succ]
    split <;> omega
theorem zbits_or : ∀ k, k < 10 → ∀ N, N < 2 ^ k → (Int32.ofNat N ||| ((1 : Int32) <<< ((Int32.ofNat k) &&& 31))) = Int32.ofNat (N + 2 ^ k) := by decide +kernel
theorem zn_of (x : Int32) (k : Nat) (h : x.toInt = k) : x = Int32.ofNat k := by
  apply zi_inj
  have := fb_rng x
  rw [h]
  exact (nI_toInt (by omega)).symm
theorem zbits_test (f : zS) (k : Nat) : ∀ n, k < n → ((zbits f n).testBit k = true ↔ zmay f k) := by
  intro n
  induction n with
  | zero => intro h; omega
  | succ n ih =>
    intro h
    have lt := zbits_lt f n
    by_cases e : k = n
    · subst e
      unfold zbits
      split
      · rename_i g
        rw [Nat.add_comm, Nat.testBit_two_pow_add_eq, Nat.testBit_lt_two_pow lt]
        exact iff_of_true rfl g
      · rename_i g
        rw [Nat.testBit_lt_two_pow lt]
        exact iff_of_false (by decide) g
    · unfold zbits
      split
      · rw [Nat.add_comm, Nat.testBit_two_pow_add_gt (by omega)]
        exact ih (by omega)
      · exact ih (by omega)
section
variable {m : zf_Me}
theorem zs_86 (hB : zB (zv 2 3 8 m)) {Q : Int32 → zf_Me → Prop} (hq : Q (Int32.ofNat (zbits (zv 2 3 8 m) 10)) m) : wp_86 m Q := by
  have e1 : (1 : Int32).toInt = 1 := rfl
  have lp : ∀ (n : Nat) (v1 v2 : Int32), 0 ≤ v2.toInt → v2.toInt ≤ 10 → 10 - v2.toInt < n → v1 = Int32.ofNat (zbits (zv 2 3 8 m) v2.toInt.toNat) → wq_86_4 Q n v1 v2 m := by
    intro n
    induction n with
    | zero => intro v1 v2 h0 h1 h2; omega
    | succ n ih =>
      intro v1 v2 h0 h1 h2 h3
      refine ⟨fun g => ?_, fun g => zs_52 hB (fun b hb => ?_)⟩
      · rw [h3, show v2.toInt = 10 by omega]
        exact hq
      · have s := fb_addI (x := v2) (y := 1) (by omega) (by omega)
        have e2 : (v2 + 1).toInt.toNat = v2.toInt.toNat + 1 := by omega
        have ev : v2 = Int32.ofNat v2.toInt.toNat := zn_of _ _ (by omega)
        have ej : ((v2.toInt.toNat : Nat) : Int) = v2.toInt := by omega
        refine ⟨fun e => ih _ _ (by omega) (by omega) (by omega) ?_, fun e => ih _ _ (by omega) (by omega) (by omega) ?_⟩
        · have st : zbits (zv 2 3 8 m) (v2.toInt.toNat + 1) = zbits (zv 2 3 8 m) v2.toInt.toNat := by
            show (if zmay (zv 2 3 8 m) ((v2.toInt.toNat : Nat) : Int) then _ else _) = _
            rw [ej, if_neg (fun z => by rw [hb.mpr z] at e; cases e)]
          rw [h3, e2, st]
        · rw [e2]
          have st : zbits (zv 2 3 8 m) (v2.toInt.toNat + 1) = zbits (zv 2 3 8 m) v2.toInt.toNat + 2 ^ v2.toInt.toNat := by
            show (if zmay (zv 2 3 8 m) ((v2.toInt.toNat : Nat) : Int) then _ else _) = _
            rw [ej, if_pos (hb.mp e)]
          rw [st, ← zbits_or v2.toInt.toNat (by omega) _ (zbits_lt _ _), h3, ← ev]
  exact ⟨12, lp 12 0 0 (by decide) (by decide) (by decide) rfl⟩
theorem zs_119 {a b c d : Int32} {Q : Bool → zf_Me → Prop} (hq : ∀ x, (x = true ↔ (c.toInt < a.toInt ∨ (a.toInt = c.toInt ∧ b.toInt < d.toInt))) → Q x m) : wp_119 a b c d m Q :=
  ⟨fun g => hq true (zb_t (by omega)), fun g => ⟨fun g2 => hq false (zb_f (by omega)), fun g2 => ⟨fun g3 => hq false (zb_f (by omega)), fun g3 => hq true (zb_t (by omega))⟩⟩⟩
theorem zs_113 {s n : Int32} {Q : Int32 → zf_Me → Prop} (h0 : (0 ≤ s.toInt ∧ s.toInt < 8) → 0 ≤ n.toInt → n.toInt ≤ (m.1 (47 + 2 * s.toInt.toNat) 2).toInt → n.toInt ≤ 60 → Q 0 m) (h1 : ∀ x : Int32, 1 ≤ x.toInt → x.toInt ≤ 6 → Q x m) : wp_113 s n m Q := by
  refine zs_111 (fun g _ => ⟨fun _ => ⟨fun g1 => ⟨g, fun g2 => ⟨fun g3 => h0 g g1 g2 g3, fun _ => h1 6 (by decide) (by decide)⟩, fun _ => h1 5 (by decide) (by decide)⟩, fun _ => h1 4 (by decide) (by decide)⟩, fun z => absurd rfl z⟩) (fun _ => ⟨fun z => absurd z (by decide), fun _ => h1 1 (by decide) (by decide)⟩) (fun _ _ _ => ⟨fun z => absurd z (by decide), fun _ => h1 2 (by decide) (by decide)⟩) (fun _ _ => ⟨fun z => absurd z (by decide), fun _ => h1 3 (by decide) (by decide)⟩)
/-- a told walk on trial -/
def ztold (m : zf_Me) (c : Nat) (f : zS) : Nat → Nat → Option zS
  | 0, _ => some f
  | n + 1, i => if zmay f (Int64.toInt32 (m.2 c i)).toInt then ztold m c (zact f (Int64.toInt32 (m.2 c i)).toInt) n (i + 1) else none
theorem zs_121 (hB : zB (zv 2 3 8 m)) {c r : Nat} {n : Int32} (hn : 0 ≤ n.toInt ∧ n.toInt ≤ 160) {Q : Int32 → zf_Me → Prop} (hq : ∀ (x : Int32) (m' : zf_Me), zB (zv 16 3 17 m') → zfr (fun a => a = 16 ∨ a = 17) m m' → Q x m') : wp_121 c r n m Q := by
  have e1 : (1 : Int32).toInt = 1 := rfl
  refine zs_43s zd16 (by decide) (fun m2 z2 f2 => ?_)
  have lp : ∀ (k : Nat) (v : Int32) (mj : zf_Me), 0 ≤ v.toInt → v.toInt ≤ n.toInt → n.toInt - v.toInt < k → zB (zv 16 3 17 mj) → zfr (fun a => a = 16 ∨ a = 17) m mj → wq_121_13 c r n Q k v mj := by
    intro k
    induction k with
    | zero => intro v mj h0 h1 h2; omega
    | succ k ih =>
      intro v mj h0 h1 h2 hb hf
      have s : v.toInt < n.toInt → (v + 1).toInt = v.toInt + 1 := fun _ => fb_addI (x := v) (y := 1) (by omega) (by omega)
      refine ⟨fun _ => hq _ mj hb hf, fun g => ⟨⟨by omega, by omega⟩, zs_52 hb (fun b hb1 => ⟨fun e => zs_56 zd16 hb (hb1.mp e) (fun m' z' f' => ih _ m' ?_ ?_ ?_ ?_ ?_), fun _ => hq _ mj hb hf⟩)⟩⟩
      · have := s g; omega
      · have := s g; omega
      · have := s g; omega
      · rw [z']
        exact zB_act hb (hb1.mp e)
      · exact zfr_trans hf (zfr_mono f' (fun a ha => by omega))
  exact ⟨162, lp 162 0 m2 (by decide) (by exact hn.1) (by show n.toInt - 0 < _; omega) (by rw [z2]; exact hB) (zfr_mono f2 (fun a ha => by omega))⟩
theorem zX_94 (hJ : JX m) {s n : Int32} {Q : Int32 → zf_Me → Prop} (K : ∀ (v : Int32) (m' : zf_Me), zq m m' → Q v m') : wp_94 s n m Q := by
  exact zs_113 (fun g _ _ _ => ⟨fun _ => ⟨g, zs_121 hJ.1 (by omega) (fun x m' _ f => K _ m' (zfr_mono f (fun a ha => by omega)))⟩, fun z => absurd rfl z⟩) (fun x h1 h2 => ⟨fun z => by omega, fun _ => zk_110 (by omega) K⟩)
theorem zx_94 (hJ : JX m) {s n : Int32} {Q : Int32 → zf_Me → Prop} (hq : ∀ (v : Int32) (m' : zf_Me), JX m' → zfc m m' → Q v m') : wp_94 s n m Q := zX_94 hJ (fun v m' f => hq v m' (JX_q hJ f) (zfc_q f))
theorem zX_95 (hJ : JX m) {s n w : Int32} {Q : Int32 → zf_Me → Prop} (K : ∀ (v : Int32) (m' : zf_Me), zq m m' → Q v m') : wp_95 s n w m Q := by
  have R : ∀ {x : Int32} {m' : zf_Me}, zq m m' → 0 ≤ x.toInt ∧ x.toInt < 8 → wp_109 x m' Q := fun f h => zk_109 h (fun v m2 f2 => K v m2 (zfr_trans f f2))
  have t56 : ∀ (x : Int32) (m' : zf_Me), zq m m' → 0 ≤ x.toInt ∧ x.toInt < 8 → (x.toInt = 0 → zB (zv 16 3 17 m')) → wq_95_56 s n w x m' Q := fun x m' f h hb =>
    ⟨fun e => ⟨fun _ => K _ m' f, fun _ => K _ m' f, fun _ => K _ m' f, fun _ => zs_49 (hb e) (fun y _ => K _ m' f)⟩, fun _ => R f h⟩
  have t32 : ∀ x : Int32, 0 ≤ x.toInt ∧ x.toInt < 8 → (x.toInt = 0 → (0 ≤ s.toInt ∧ s.toInt < 8) ∧ 0 ≤ n.toInt ∧ n.toInt ≤ 160) → wq_95_32 s n w x m Q := fun x h h0 =>
    ⟨fun e => t56 x m zfr_refl h (fun z => absurd z e), fun e => ⟨(h0 e).1, zs_121 hJ.1 (h0 e).2 (fun y m' hb f => ⟨fun _ => t56 x m' (zfr_mono f (fun a ha => by omega)) h (fun _ => hb), fun _ => t56 6 m' (zfr_mono f (fun a ha => by omega)) (by decide) (fun z => absurd z (by decide))⟩)⟩⟩
  have t29 : wq_95_29 s n w m Q := t32 5 (by decide) (fun z => absurd z (by decide))
  have t20 : ∀ x : Int32, 0 ≤ x.toInt ∧ x.toInt < 8 → (x.toInt = 0 → (0 ≤ s.toInt ∧ s.toInt < 8) ∧ 0 ≤ n.toInt ∧ n.toInt ≤ 160) → wq_95_20 s n w x m Q := fun x h h0 => ⟨fun _ => t29, fun _ => ⟨fun _ => t32 x h h0, fun _ => t29⟩⟩
  exact zs_113 (fun g g1 g2 g3 => ⟨fun _ => t20 0 (by decide) (fun _ => ⟨g, by omega⟩), fun z => absurd rfl z⟩) (fun x h1 h2 => ⟨fun z => by omega, fun z => ⟨fun _ => t32 x (by omega) (fun k => by omega), fun _ => t20 x (by omega) (fun k => by omega)⟩⟩)
theorem zx_95 (hJ : JX m) {s n w : Int32} {Q : Int32 → zf_Me → Prop} (hq : ∀ (v : Int32) (m' : zf_Me), JX m' → zfc m m' → Q v m') : wp_95 s n w m Q := zX_95 hJ (fun v m' f => hq v m' (JX_q hJ f) (zfc_q f))
theorem zx_96 (hJ : JX m) {s n : Int32} {Q : Int32 → zf_Me → Prop} (hq : ∀ (v : Int32) (m' : zf_Me), JX m' → zfc m m' → Q v m') : wp_96 s n m Q := by
  have K : ∀ v m', zq m m' → Q v m' := fun v m' f => hq v m' (JX_q hJ f) (zfc_q f)
  have t29 : ∀ (x : Int32) (m' : zf_Me), zq m m' → 0 ≤ x.toInt ∧ x.toInt < 8 → (x.toInt = 0 → zB (zv 16 3 17 m')) → wq_96_29 s n x m' Q := fun x m' f h hb =>
    ⟨fun e => zs_43s zd2 (by decide) (fun m4 z4 f4 => hq _ m4 (JX_now hJ (zfr_trans (zfr_mono f (fun a ha => by omega)) (zfr_mono f4 (fun a ha => by omega))) (by rw [z4]; exact hb e)) (zfc_trans (zfc_q f) (zfc_of f4 (fun a ha => by omega)))), fun _ => zk_109 h (fun v m2 f2 => K v m2 (zfr_trans f f2))⟩
  exact zs_113 (fun g g1 g2 g3 => ⟨fun z => absurd rfl z, fun _ => ⟨g, zs_121 hJ.1 (by omega) (fun y m' hb f => ⟨fun _ => t29 0 m' (zfr_mono f (fun a ha => by omega)) (by decide) (fun _ => hb), fun _ => t29 6 m' (zfr_mono f (fun a ha => by omega)) (by decide) (fun z => absurd z (by decide))⟩)⟩⟩) (fun x h1 h2 => ⟨fun _ => t29 x m zfr_refl (by omega) (fun z => by omega), fun z => by omega⟩)
theorem zx_100 (hJ : JX m) {a : Int32} {Q : Int32 → zf_Me → Prop} (hq : ∀ (v : Int32) (m' : zf_Me), JX m' → zfc m m' → Q v m') : wp_100 a m Q := by
  have K : ∀ v m', zq m m' → Q v m' := fun v m' f => hq v m' (JX_q hJ f) (zfc_q f)
  refine zs_52 hJ.1 (fun b hb => ⟨fun e => zs_56 zd2 hJ.1 (hb.mp e) (fun m' z f => hq _ m' (JX_now hJ (zfr_mono f (fun a ha => by omega)) ?_) (zfc_of f (fun a ha => by omega))), fun _ => zk_109 (by decide) K⟩)
  rw [z]
  exact zB_act hJ.1 (hb.mp e)
-- by rules
theorem zs_now {m m' : zf_Me} (f : zq m m') (hB : zB (zv 2 3 8 m)) : zB (zv 2 3 8 m') := by rw [zq_now f]; exact hB
/-- a rule from the truth, begun and gone to the end -/
theorem zs_go (hB : zB (zv 2 3 8 m)) {rule : Int32} {Q : zf_Me → Prop} (hq : ∀ m', zrs m' = zgo rule.toInt 60 (zbeg (zv 2 3 8 m)) → zfR m m' → Q m') : wp_7 2 3 8 m (fun m4 => wp_8 rule m4 Q) :=
  zs_7 (by decide) hB (fun m4 z4 f4 => zs_8 (by rw [z4]; exact zRB_beg hB) (fun m5 z5 f5 => hq m5 (by rw [z5, z4]) (zfr_trans f4 f5)))
theorem zX_88 (hJ : JX m) {rule w : Int32} {Q : Int32 → zf_Me → Prop} (K : ∀ (v : Int32) (m' : zf_Me), zq m m' → Q v m') : wp_88 rule w m Q := by
  have b := zB_v hJ.1
  have e10 : (10 : Int32).toInt = 10 := rfl
  have e1 : (1 : Int32).toInt = 1 := rfl
  have t48 : (0 ≤ w.toInt ∧ w.toInt ≤ 3) ∨ (0 ≤ (w - 10).toInt ∧ (w - 10).toInt < 6) → wq_88_48 rule w m Q := fun h =>
    zs_116 (fun _ => ⟨fun _ => zs_go hJ.1 (fun m6 _ f => ⟨fun g => ⟨by omega, K _ m6 (zfR_q f)⟩, fun _ => K _ m6 (zfR_q f), fun _ => K _ m6 (zfR_q f), fun _ => K _ m6 (zfR_q f), fun _ => K _ m6 (zfR_q f)⟩), fun z => (nomatch z)⟩) (fun _ => ⟨fun z => (nomatch z), fun _ => zk_109 (by decide) K⟩)
  have t28 : ∀ u : Int32, (¬ u.toInt = 0 → (0 ≤ (w - 10).toInt ∧ (w - 10).toInt < 6)) → wq_88_28 rule w u m Q := fun u h => ⟨fun g => t48 (Or.inr (h g)), fun _ => ⟨fun _ => zk_109 (by decide) K, fun g2 => ⟨fun g3 => t48 (Or.inl ⟨g2, g3⟩), fun _ => zk_109 (by decide) K⟩⟩⟩
  have t27 : wq_88_27 rule w m Q := t28 0 (fun z => absurd rfl z)
  exact ⟨fun _ => t27, fun g => zs_65t (fun g2 => ⟨fun z => (nomatch z), fun _ => t28 1 (fun _ => by omega)⟩) (fun _ => ⟨fun _ => t27, fun z => (nomatch z)⟩)⟩
theorem zx_88 (hJ : JX m) {rule w : Int32} {Q : Int32 → zf_Me → Prop} (hq : ∀ (v : Int32) (m' : zf_Me), JX m' → zfc m m' → Q v m') : wp_88 rule w m Q := zX_88 hJ (fun v m' f => hq v m' (JX_q hJ f) (zfc_q f))
theorem zX_89 (hJ : JX m) {w : Int32} {Q : Int32 → zf_Me → Prop} (K : ∀ (v : Int32) (m' : zf_Me), zq m m' → Q v m') : wp_89 w m Q := by
  have e1 : (1 : Int32).toInt = 1 := rfl
  have lp : ∀ (n : Nat) (v2 v3 v4 v5 : Int32) (mj : zf_Me), 0 ≤ v5.toInt → v5.toInt ≤ 4 → 4 - v5.toInt < n → zq m mj → wq_89_25 w Q n v2 v3 v4 v5 mj := by
    intro n
    induction n with
    | zero => intro v2 v3 v4 v5 mj h0 h1 h2; omega
    | succ n ih =>
      intro v2 v3 v4 v5 mj h0 h1 h2 hf
      refine ⟨fun _ => K _ mj hf, fun g => zs_go (zs_now hf hJ.1) (fun m6 _ f => ?_)⟩
      have s := fb_addI (x := v5) (y := 1) (by omega) (by omega)
      have t : ∀ u : Int32, wq_89_75 w (wq_89_25 w Q n) v2 v3 v4 v5 u m6 Q := fun u => zs_119 (fun x _ => ⟨fun _ => ih _ _ _ _ m6 (by omega) (by omega) (by omega) (zfr_trans hf (zfR_q f)), fun _ => ih _ _ _ _ m6 (by omega) (by omega) (by omega) (zfr_trans hf (zfR_q f))⟩)
      exact ⟨fun _ => t _, fun _ => t _⟩
  exact ⟨fun _ => zk_109 (by decide) K, fun _ => ⟨fun _ => ⟨6, lp 6 _ _ _ 0 m (by decide) (by decide) (by decide) zfr_refl⟩, fun _ => zk_109 (by decide) K⟩⟩
theorem zx_89 (hJ : JX m) {w : Int32} {Q : Int32 → zf_Me → Prop} (hq : ∀ (v : Int32) (m' : zf_Me), JX m' → zfc m m' → Q v m') : wp_89 w m Q := zX_89 hJ (fun v m' f => hq v m' (JX_q hJ f) (zfc_q f))
theorem zX_91 (hJ : JX m) {rule w : Int32} {Q : Int32 → zf_Me → Prop} (K : ∀ (v : Int32) (m' : zf_Me), zq m m' → Q v m') : wp_91 rule w m Q := by
  have e1 : (1 : Int32).toInt = 1 := rfl
  have lp : ∀ (n : Nat) (v3 v4 : Int32) (mj : zf_Me), 0 ≤ v4.toInt → v4.toInt ≤ 61 → 61 - v4.toInt < n → zRB (zrs mj) → zq m mj → wq_91_30 rule w Q n v3 v4 mj := by
    intro n
    induction n with
    | zero => intro v3 v4 mj h0 h1 h2; omega
    | succ n ih =>
      intro v3 v4 mj h0 h1 h2 hr hf
      refine ⟨fun _ => K _ mj hf, fun g => ⟨fun _ => K _ mj hf, fun _ => zs_9 hr (fun b m' y1 _ f1 => ⟨fun e => ?_, fun _ => K _ m' (zfr_trans hf (zfR_q f1))⟩)⟩⟩
      have s := fb_addI (x := v4) (y := 1) (by omega) (by omega)
      exact ih _ _ m' (by omega) (by omega) (by omega) (zRB_stp hr (y1 e)) (zfr_trans hf (zfR_q f1))
  exact zs_116 (fun _ => ⟨fun _ => zs_7 (by decide) hJ.1 (fun m4 z4 f4 => ⟨63, lp 63 _ 0 m4 (by decide) (by decide) (by decide) (by rw [z4]; exact zRB_beg hJ.1) (zfR_q f4)⟩), fun z => (nomatch z)⟩) (fun _ => ⟨fun z => (nomatch z), fun _ => zk_110 (by decide) K⟩)
theorem zx_91 (hJ : JX m) {rule w : Int32} {Q : Int32 → zf_Me → Prop} (hq : ∀ (v : Int32) (m' : zf_Me), JX m' → zfc m m' → Q v m') : wp_91 rule w m Q := zX_91 hJ (fun v m' f => hq v m' (JX_q hJ f) (zfc_q f))
theorem zrs_w {x : zS} {t n w : Int} {m : zf_Me} (h : zrs m = (x, t, n, w)) : zv 19 3 20 m = x ∧ (m.1 18 1).toInt = t ∧ (m.1 18 2).toInt = n ∧ (m.1 18 3).toInt = w := by
  unfold zrs at h
  cases h
  exact ⟨rfl, rfl, rfl, rfl⟩
theorem zX_92 (hJ : JX m) {rule : Int32} {Q : Int32 → zf_Me → Prop} (K : ∀ (v : Int32) (m' : zf_Me), zq m m' → Q v m') : wp_92 rule m Q := by
  refine zs_116 (fun _ => ⟨fun _ => zs_52 hJ.1 (fun b hb => ⟨fun e => zs_go hJ.1 (fun m8 _ f8 => zs_7 (by decide) (zs_now (zfR_q f8) hJ.1) (fun m10 z10 f10 => ?_)), fun _ => K _ m zfr_refl⟩), fun z => (nomatch z)⟩) (fun _ => ⟨fun z => (nomatch z), fun _ => zk_109 (by decide) K⟩)
  have w10 := zrs_w z10
  have n8 : zv 2 3 8 m8 = zv 2 3 8 m := zq_now (zfR_q f8)
  have may : zmay (zv 19 3 20 m10) 9 := by
    rw [w10.1, n8]
    exact hb.mp e
  have b10 : zB (zv 19 3 20 m10) := by rw [w10.1, n8]; exact hJ.1
  refine zs_56 (a := 9) zd19 b10 may (fun m12 z12 f12 => zs_8 ?_ (fun m14 _ f14 => zs_119 (fun x _ => ?_)))
  · have s : m12.1 18 = m10.1 18 := f12.1 18 (by decide)
    refine ⟨by show zB (zv 19 3 20 m12); rw [z12]; exact zB_act b10 may, ?_, ?_, ?_⟩
    · show 0 ≤ (m12.1 18 1).toInt ∧ (m12.1 18 1).toInt ≤ 5
      rw [s, w10.2.1]
      decide
    · show 0 ≤ (m12.1 18 2).toInt ∧ (m12.1 18 2).toInt ≤ 60
      rw [s, w10.2.2.1]
      decide
    · show 0 ≤ (m12.1 18 3).toInt ∧ (m12.1 18 3).toInt ≤ 99
      rw [s, w10.2.2.2, n8]
      exact zgr_b hJ.1.2.2 _ (by have := hJ.1.1; omega)
  · have f : zq m m14 := zfr_trans (zfR_q f8) (zfr_trans (zfR_q f10) (zfr_trans (zfr_mono f12 (fun a ha => by omega)) (zfR_q f14)))
    exact ⟨fun _ => K _ m14 f, fun _ => K _ m14 f⟩
theorem zx_92 (hJ : JX m) {rule : Int32} {Q : Int32 → zf_Me → Prop} (hq : ∀ (v : Int32) (m' : zf_Me), JX m' → zfc m m' → Q v m') : wp_92 rule m Q := zX_92 hJ (fun v m' f => hq v m' (JX_q hJ f) (zfc_q f))
theorem zX_93 (hJ : JX m) {rule : Int32} {Q : Int32 → zf_Me → Prop} (K : ∀ (v : Int32) (m' : zf_Me), zq m m' → Q v m') : wp_93 rule m Q := by
  have e1 : (1 : Int32).toInt = 1 := rfl
  have b := zB_v hJ.1
  have lp : ∀ (n : Nat) (v2 v3 v4 v5 : Int32) (mj : zf_Me), -1 ≤ v5.toInt → v5.toInt ≤ 6 → 6 - v5.toInt < n → zq m mj → wq_93_24 rule Q n v2 v3 v4 v5 mj := by
    intro n
    induction n with
    | zero => intro v2 v3 v4 v5 mj h0 h1 h2; omega
    | succ n ih =>
      intro v2 v3 v4 v5 mj h0 h1 h2 hf
      have hB := zs_now hf hJ.1
      have py : (mj.1 3 5).toInt = (m.1 3 5).toInt := by rw [hf.1 3 (by omega)]
      refine ⟨fun _ => K _ mj hf, fun g => zs_7 (by decide) hB (fun m4 z4 f4 m5 q5 => ?_)⟩
      have s := fb_addI (x := v5) (y := 1) (by omega) (by omega)
      have w4 := zrs_w z4
      have f5 : zfR mj m5 := by
        rw [q5]
        exact zfr_u f4 (by omega)
      refine zs_8 ?_ (fun m8 _ f8 => zs_119 (fun x _ => ?_))
      · have c18 : m5.1 18 = m4.1 18 := by rw [q5]; exact zf_u1 (by decide)
        refine ⟨?_, ?_, ?_, ?_⟩
        · show zB (zv 19 3 20 m5)
          rw [q5, zv_w2 zd19, w4.1]
          exact zB_bag hB (by omega)
        · show 0 ≤ (m5.1 18 1).toInt ∧ (m5.1 18 1).toInt ≤ 5
          rw [c18, w4.2.1]
          decide
        · show 0 ≤ (m5.1 18 2).toInt ∧ (m5.1 18 2).toInt ≤ 60
          rw [c18, w4.2.2.1]
          decide
        · show 0 ≤ (m5.1 18 3).toInt ∧ (m5.1 18 3).toInt ≤ 99
          rw [c18, w4.2.2.2]
          exact zgr_b hB.2.2 _ (by have := hB.1; omega)
      · have f : zq m m8 := zfr_trans hf (zfr_trans (zfR_q f5) (zfR_q f8))
        exact ⟨fun _ => ih _ _ _ _ m8 (by omega) (by omega) (by omega) f, fun _ => ih _ _ _ _ m8 (by omega) (by omega) (by omega) f⟩
  exact zs_116 (fun _ => ⟨fun _ => ⟨9, lp 9 _ _ _ (-1) m (by decide) (by decide) (by decide) zfr_refl⟩, fun z => (nomatch z)⟩) (fun _ => ⟨fun z => (nomatch z), fun _ => zk_110 (by decide) K⟩)
theorem zx_93 (hJ : JX m) {rule : Int32} {Q : Int32 → zf_Me → Prop} (hq : ∀ (v : Int32) (m' : zf_Me), JX m' → zfc m m' → Q v m') : wp_93 rule m Q := zX_93 hJ (fun v m' f => hq v m' (JX_q hJ f) (zfc_q f))
theorem zs_122 {w y r c r1 : Nat} (hp : 0 ≤ (m.1 y 5).toInt ∧ (m.1 y 5).toInt ≤ 6) {Q : Bool → zf_Me → Prop} (hq : ∀ b, Q b m) : wp_122 w y r c r1 m Q := by
  have e1 : (1 : Int32).toInt = 1 := rfl
  have lp : ∀ (n : Nat) (v2 : Int32), 0 ≤ v2.toInt → v2.toInt ≤ 6 → 6 - v2.toInt < n → wq_122_2 w y r c r1 Q n v2 m := by
    intro n
    induction n with
    | zero => intro v2 h0 h1 h2; omega
    | succ n ih =>
      intro v2 h0 h1 h2
      refine ⟨fun _ => hq _, fun g => ⟨by omega, ⟨by omega, by omega⟩, fun _ => ?_, fun _ => hq _⟩⟩
      have s := fb_addI (x := v2) (y := 1) (by omega) (by omega)
      exact ih _ (by omega) (by omega) (by omega)
  exact ⟨8, lp 8 0 (by decide) (by decide) (by decide)⟩
theorem zX_97 (hJ : JX m) {s : Int32} {Q : Int32 → zf_Me → Prop} (K : ∀ (v : Int32) (m' : zf_Me), zq m m' → Q v m') : wp_97 s m Q := by
  have e1 : (1 : Int32).toInt = 1 := rfl
  have lp : (0 ≤ s.toInt ∧ s.toInt < 8) → ∀ (n : Nat) (v3 v4 : Int32) (mj : zf_Me), 0 ≤ v4.toInt → v4.toInt ≤ 4 → 4 - v4.toInt < n → zq m mj → wq_97_49 s Q n v3 v4 mj := by
    intro hs n
    induction n with
    | zero => intro v3 v4 mj h0 h1 h2; omega
    | succ n ih =>
      intro v3 v4 mj h0 h1 h2 hf
      have hB := zs_now hf hJ.1
      refine ⟨fun _ => K _ mj hf, fun g => zs_go hB (fun m8 _ f8 => ⟨hs, zs_122 ?_ (fun b => ?_)⟩)⟩
      · rw [f8.1 3 (by decide)]
        have := zB_v hB
        omega
      · have t := fb_addI (x := v4) (y := 1) (by omega) (by omega)
        have f : zq m m8 := zfr_trans hf (zfR_q f8)
        exact ⟨fun _ => ih _ _ m8 (by omega) (by omega) (by omega) f, fun _ => ih _ _ m8 (by omega) (by omega) (by omega) f⟩
  exact zs_111 (fun g _ => ⟨fun _ => ⟨g, fun _ => ⟨6, lp g 6 _ 0 m (by decide) (by decide) (by decide) zfr_refl⟩, fun _ => zk_109 (by decide) K⟩, fun z => absurd rfl z⟩) (fun _ => ⟨fun z => absurd z (by decide), fun _ => zk_109 (by decide) K⟩) (fun _ _ _ => ⟨fun z => absurd z (by decide), fun _ => zk_109 (by decide) K⟩) (fun _ _ => ⟨fun z => absurd z (by decide), fun _ => zk_109 (by decide) K⟩)
theorem zx_97 (hJ : JX m) {s : Int32} {Q : Int32 → zf_Me → Prop} (hq : ∀ (v : Int32) (m' : zf_Me), JX m' → zfc m m' → Q v m') : wp_97 s m Q := zX_97 hJ (fun v m' f => hq v m' (JX_q hJ f) (zfc_q f))
theorem zs_123 (hJ : JX m) {rule w : Int32} (hw : w.toInt = 2 ∨ w.toInt = 3) {Q : Int32 → zf_Me → Prop} (K : ∀ v m', zq m m' → Q v m') : wp_123 rule w m Q := by
  have e1 : (1 : Int32).toInt = 1 := rfl
  have lo := zk_lo w.toInt.toNat (by omega)
  have bd : 0 ≤ zlo w.toInt.toNat ∧ zlo w.toInt.toNat ≤ 1 ∧ zhi w.toInt.toNat ≤ 99 := by
    unfold zlo zhi
    split <;> split <;> omega
  have lp : ∀ (n : Nat) (v3 : Int32) (mj : zf_Me), zlo w.toInt.toNat ≤ v3.toInt → v3.toInt ≤ 100 → 100 - v3.toInt < n → zq m mj → wq_123_6 rule w Q n v3 mj := by
    intro n
    induction n with
    | zero => intro v3 mj h0 h1 h2; omega
    | succ n ih =>
      intro v3 mj h0 h1 h2 hf
      have hB := zs_now hf hJ.1
      refine ⟨by omega, fun _ => K _ mj hf, fun g => zs_7 (by decide) hB (fun m2 z2 f2 => zs_46 zd19 (by omega) (fun m4 z4 f4 => ?_))⟩
      rw [lo.2] at g
      have t := fb_addI (x := v3) (y := 1) (by omega) (by omega)
      have w2 := zrs_w z2
      have c18 : m4.1 18 = m2.1 18 := f4.1 18 (by decide)
      have rb : zRB (zrs m4) := by
        refine ⟨?_, ?_, ?_, ?_⟩
        · show zB (zv 19 3 20 m4)
          rw [z4, w2.1]
          exact zB_ask hB (by omega) ⟨h0, g⟩
        · show 0 ≤ (m4.1 18 1).toInt ∧ (m4.1 18 1).toInt ≤ 5
          rw [c18, w2.2.1]
          decide
        · show 0 ≤ (m4.1 18 2).toInt ∧ (m4.1 18 2).toInt ≤ 60
          rw [c18, w2.2.2.1]
          decide
        · show 0 ≤ (m4.1 18 3).toInt ∧ (m4.1 18 3).toInt ≤ 99
          rw [c18, w2.2.2.2]
          exact zgr_b hB.2.2 _ (by have := hB.1; omega)
      refine zs_8 rb (fun m6 _ f6 => zs_47 (fun b _ => ?_))
      have f : zq m m6 := zfr_trans hf (zfr_trans (zfR_q f2) (zfr_trans (zfr_mono f4 (fun a ha => by omega)) (zfR_q f6)))
      exact ⟨fun _ => ih _ m6 (by omega) (by omega) (by omega) f, fun _ => K _ m6 f⟩
  exact ⟨by omega, 102, lp 102 _ m (by rw [lo.1]; omega) (by rw [lo.1]; omega) (by rw [lo.1]; omega) zfr_refl⟩
theorem zX_98 (hJ : JX m) {Q : Int32 → zf_Me → Prop} (K : ∀ (v : Int32) (m' : zf_Me), zq m m' → Q v m') : wp_98 m Q := by
  exact zs_123 hJ (Or.inr rfl) K
theorem zx_98 (hJ : JX m) {Q : Int32 → zf_Me → Prop} (hq : ∀ (v : Int32) (m' : zf_Me), JX m' → zfc m m' → Q v m') : wp_98 m Q := zX_98 hJ (fun v m' f => hq v m' (JX_q hJ f) (zfc_q f))
theorem zX_99 (hJ : JX m) {rule : Int32} {Q : Int32 → zf_Me → Prop} (K : ∀ (v : Int32) (m' : zf_Me), zq m m' → Q v m') : wp_99 rule m Q := by
  exact zs_116 (fun _ => ⟨fun z => (nomatch z), fun _ => zs_123 hJ (Or.inl rfl) K⟩) (fun _ => ⟨fun _ => zk_110 (by decide) K, fun z => (nomatch z)⟩)
theorem zx_99 (hJ : JX m) {rule : Int32} {Q : Int32 → zf_Me → Prop} (hq : ∀ (v : Int32) (m' : zf_Me), JX m' → zfc m m' → Q v m') : wp_99 rule m Q := zX_99 hJ (fun v m' f => hq v m' (JX_q hJ f) (zfc_q f))
end
