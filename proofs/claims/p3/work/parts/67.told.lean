/-! part 67: the reference's told walks, summers, sums, the search ahead -/
theorem zand1 (x : Int32) : 0 ≤ (x &&& 1).toInt ∧ (x &&& 1).toInt ≤ 1 := by
  have h : (x &&& 1).toBitVec.toNat = x.toBitVec.toNat % 2 := by
    rw [Int32.toBitVec_and, BitVec.toNat_and]
    exact Nat.and_one_is_mod _
  have t : (x &&& 1).toInt = ((x &&& 1).toBitVec.toNat : Int) := BitVec.toInt_eq_toNat_of_lt (by omega)
  omega
section
variable {m : zf_Me}
theorem zs_189 {s n : Int32} (hs : 0 ≤ s.toInt ∧ s.toInt < 8) (hn : 0 ≤ n.toInt ∧ n.toInt ≤ 60) (hB : zB (zr m)) {Q : Int32 → zf_Me → Prop} (hq : ∀ v m', zgc m m' → zB (zr m') → Q v m') : wp_189 s n m Q := by
  have e1 : (1 : Int32).toInt = 1 := rfl
  have lp : ∀ (k : Nat) (v3 : Int32) (mj : zf_Me), 0 ≤ v3.toInt → v3.toInt ≤ n.toInt → n.toInt - v3.toInt < k → zgc m mj → zB (zr mj) → wq_189_2 s n Q k v3 mj := by
    intro k
    induction k with
    | zero => intro v3 mj h0 h1 h2; omega
    | succ k ih =>
      intro v3 mj h0 h1 h2 hf hb
      have x := zix (s := s) (i := v3) hs (by omega)
      have t := fb_addI (x := v3) (y := 1) (by omega) (by omega)
      refine ⟨fun _ => hq _ mj hf hb, fun g => ⟨by omega, fun _ => hq _ mj hf hb, fun g0 => ⟨fun _ => hq _ mj hf hb, fun g9 => zs_167 hb g9 (fun b hm => ⟨fun e => zs_169 hb ⟨g0, g9⟩ (hm.mp e) (fun m6 z6 f6 => ?_), fun _ => hq _ mj hf hb⟩)⟩⟩⟩
      exact ih _ m6 (by omega) (by omega) (by omega) (zgr_trans hf f6) (by rw [z6]; exact zB_act hb (hm.mp e))
  exact ⟨62, lp 62 0 m (by decide) (by show (0 : Int) ≤ _; omega) (by show n.toInt - 0 < _; omega) zgr_refl hB⟩
theorem zy_191 (hJ : JM m) {s n : Int32} {Q : Int32 → zf_Me → Prop} (hq : ∀ (v : Int32) (m' : zf_Me), JM m' → zfd m m' → Q v m') : wp_191 s n m Q := by
  have K : ∀ v m', zgQ m m' → zB (zr m') → Q v m' := fun v m' f b => hq v m' (JM_q hJ f b) (zfd_q f)
  have R : ∀ {w : Int32}, (-8 < w.toInt ∧ w.toInt ≤ 0) → wp_126 w m Q := fun hw => zk_126 hw hJ.1 K
  refine zs_190 (fun hs n0 _ n6 => ⟨fun _ => ?_, fun z => absurd rfl z⟩) (fun x a b => ⟨fun z => by omega, fun _ => R (by omega)⟩)
  refine zs_161s (by decide) rfl (by decide) (fun m4 a4 f4 z4 => zs_189 hs ⟨n0, n6⟩ (by rw [z4]; exact hJ.1) (fun v m6 f6 _ => zs_182 (fun m8 z8 f8 => K _ m8 (zgr_trans (zgr_mono f4 (fun a k z => by omega)) (zgr_trans (zgc_q f6) (zgc_q f8))) ?_)))
  have a4' : zA 81 0 m4 = zr m := a4
  rw [z8, zA_of f6 (fun k => by omega), a4']
  exact hJ.1
theorem zy_192 (hJ : JM m) {s n w : Int32} {Q : Int32 → zf_Me → Prop} (hq : ∀ (v : Int32) (m' : zf_Me), JM m' → zfd m m' → Q v m') : wp_192 s n w m Q := by
  have K : ∀ v m', zgQ m m' → zB (zr m') → Q v m' := fun v m' f b => hq v m' (JM_q hJ f b) (zfd_q f)
  have R : ∀ {w : Int32}, (-8 < w.toInt ∧ w.toInt ≤ 0) → wp_125 w m Q := fun hw => zk_125 hw hJ.1 K
  have no : ∀ x : Int32, -6 ≤ x.toInt → x.toInt ≤ -1 → wq_192_39 s n w x m Q := fun x h0 h1 => ⟨fun z => by omega, fun _ => R (by omega)⟩
  have no2 : ∀ x : Int32, -6 ≤ x.toInt → x.toInt ≤ -1 → wq_192_26 s n w x m Q := fun x h0 h1 => ⟨fun _ => no x h0 h1, fun z => by omega⟩
  have ok : (0 ≤ s.toInt ∧ s.toInt < 8) → 0 ≤ n.toInt ∧ n.toInt ≤ 60 → wq_192_39 s n w 0 m Q := by
    intro hs hn
    refine ⟨fun _ => ?_, fun z => absurd rfl z⟩
    refine zs_161s (by decide) rfl (by decide) (fun m4 a4 f4 z4 => zs_189 hs hn (by rw [z4]; exact hJ.1) (fun v m6 f6 b6 => ?_))
    have a4' : zA 81 0 m4 = zr m := a4
    have F : ∀ x : Int32, wq_192_108 s n w v x m6 Q := fun x => by
      refine zs_182 (fun m8 z8 f8 => ?_)
      have F8 : zgQ m m8 := zgr_trans (zgr_mono f4 (fun a k z => by omega)) (zgr_trans (zgc_q f6) (zgc_q f8))
      have B8 : zB (zr m8) := by
        rw [z8, zA_of f6 (fun k => by omega), a4']
        exact hJ.1
      exact ⟨fun _ => zk_125 (by decide) B8 (fun v m' f b => K v m' (zgr_trans F8 f) b), fun _ => K _ m8 F8 B8⟩
    exact ⟨fun _ => ⟨fun _ => ⟨fun _ => F _, fun _ => zs_170 b6 (fun x _ => F _)⟩, fun _ => F _⟩, fun _ => F _⟩
  have t26 : wq_192_26 s n w 0 m Q := ⟨fun z => absurd rfl z, fun _ => zs_190 (fun hs n0 _ n6 => ok hs ⟨n0, n6⟩) (fun x a b => no x a b)⟩
  exact zs_139 (fun _ _ _ => ⟨fun z => absurd rfl z, fun _ => ⟨fun _ => no2 (-5) (by decide) (by decide), fun _ => ⟨fun _ => t26, fun _ => no2 (-5) (by decide) (by decide)⟩⟩⟩) (fun x a b => ⟨fun _ => no2 x (by omega) b, fun z => by omega⟩)
theorem zy_193 (hJ : JM m) {s n : Int32} {Q : Int32 → zf_Me → Prop} (hq : ∀ (v : Int32) (m' : zf_Me), JM m' → zfd m m' → Q v m') : wp_193 s n m Q := by
  have K : ∀ v m', zgQ m m' → zB (zr m') → Q v m' := fun v m' f b => hq v m' (JM_q hJ f b) (zfd_q f)
  have R : ∀ {w : Int32}, (-8 < w.toInt ∧ w.toInt ≤ 0) → wp_125 w m Q := fun hw => zk_125 hw hJ.1 K
  refine zs_190 (fun hs n0 _ n6 => ⟨fun _ => ?_, fun z => absurd rfl z⟩) (fun x a b => ⟨fun z => by omega, fun _ => R (by omega)⟩)
  refine zs_161s (by decide) rfl (by decide) (fun m4 a4 f4 z4 => zs_189 hs ⟨n0, n6⟩ (by rw [z4]; exact hJ.1) (fun v m6 f6 b6 => ?_))
  have a4' : zA 81 0 m4 = zr m := a4
  have F6 : zgQ m m6 := zgr_trans (zgr_mono f4 (fun a k z => by omega)) (zgc_q f6)
  refine ⟨fun _ => zs_182 (fun m8 z8 f8 => ?_), fun _ => K _ m6 F6 b6⟩
  have B8 : zB (zr m8) := by
    rw [z8, zA_of f6 (fun k => by omega), a4']
    exact hJ.1
  exact zk_125 (by decide) B8 (fun v m' f b => K v m' (zgr_trans F6 (zgr_trans (zgc_q f8) f)) b)
theorem zs_198 {n : Int32} (hn : 0 < n.toInt) {Q : Int32 → zf_Me → Prop} (hq : ∀ (x : Int32) (m' : zf_Me), x.toInt = zup (znexts (zr m 5 12)) % n.toInt → zr m' = zU (zr m) 5 12 (znexts (zr m 5 12)) → zgc m m' → Q x m') : wp_198 n m Q := by
  intro m1 q1
  have es : (m.1 63 12 * 1103515245 + 12345).toInt = znexts (zr m 5 12) := by
    show _ = (Int32.ofInt (m.1 63 12).toInt * 1103515245 + 12345).toInt
    rw [Int32.ofInt_toInt]
  refine ⟨by omega, hq _ m1 ?_ ?_ ?_⟩
  · have b := zup_b (Int32.toUInt32 (m1.1 63 12))
    rw [zf_remG b.1 hn]
    have e : (m1.1 63 12) = Int32.ofInt (znexts (zr m 5 12)) := by
      rw [q1, zf_u3, ← es, Int32.ofInt_toInt]
    rw [e]
    rfl
  · rw [q1, zr_w12, es]
  · rw [q1]
    exact zgr_u zgr_refl (by omega)
theorem zB_next {f : zS} (h : zB f) : zB (zU f 5 12 (znexts (f 5 12))) := zB_seed (s := Int32.ofInt (f 5 12) * 1103515245 + 12345) h
theorem zbt_pos {N k : Nat} {v4 v7 : Int32} (hN : N < 1024) (h4 : v4 = Int32.ofNat N) (hk : k < 10) (h7 : v7.toInt = k) : (¬ (((v4 >>> (v7 &&& 31)) &&& 1)).toInt = 0) → N.testBit k = true := by
  intro g
  have e7 : v7 = Int32.ofNat k := zn_of _ _ h7
  rw [h4, e7] at g
  have t := zbt_ok N hN k hk
  cases h : N.testBit k with
  | true => rfl
  | false => exact absurd (t.mpr h) g
theorem zy_199 (hJ : JM m) {n : Int32} {Q : Int32 → zf_Me → Prop} (hq : ∀ (v : Int32) (m' : zf_Me), JM m' → zfd m m' → Q v m') : wp_199 n m Q := by
  have K : ∀ v m', zgQ m m' → zB (zr m') → Q v m' := fun v m' f b => hq v m' (JM_q hJ f b) (zfd_q f)
  have R : ∀ {w : Int32}, (-8 < w.toInt ∧ w.toInt ≤ 0) → wp_125 w m Q := fun hw => zk_125 hw hJ.1 K
  have e1 : (1 : Int32).toInt = 1 := rfl
  have en : (-1 : Int32).toInt = -1 := rfl
  have lp : n.toInt ≤ 60 → ∀ (k : Nat) (v2 v3 : Int32) (mj : zf_Me), 0 ≤ v3.toInt → v3.toInt ≤ n.toInt → n.toInt - v3.toInt < k → zgc m mj → zB (zr mj) → wq_199_25 n Q k v2 v3 mj := by
    intro h60 k
    induction k with
    | zero => intro v2 v3 mj h0 h1 h2; omega
    | succ k ih =>
      intro v2 v3 mj h0 h1 h2 hf hb
      refine ⟨fun _ => K _ mj (zgc_q hf) hb, fun g => zs_173 hb ?_⟩
      obtain ⟨N, lN, eN, tN⟩ : ∃ N, N < 1024 ∧ Int32.ofNat (zbits (zr mj) 10) = Int32.ofNat N ∧ ∀ k, k < 10 → N.testBit k = true → zmay (zr mj) ((k : Nat) : Int) := ⟨zbits (zr mj) 10, zbits_lt _ 10, rfl, fun k hk h => (zbits_test (zr mj) k 10 hk).mp h⟩
      rw [eN]
      clear eN
      have t := fb_addI (x := v3) (y := 1) (by omega) (by omega)
      have nx : ∀ (a : Int32) (m' : zf_Me), zgc m m' → zB (zr m') → wq_199_25 n Q k a (v3 + 1) m' := fun a m' f b => ih a _ m' (by omega) (by omega) (by omega) f b
      have lp86 : ∀ (j : Nat) (v6 v7 : Int32) (mi : zf_Me), 0 ≤ v7.toInt → v7.toInt ≤ 10 → 10 - v7.toInt < j → zgc m mi → zB (zr mi) → (0 ≤ v6.toInt → ∀ a, zmay (zr mi) a ↔ zmay (zr mj) a) → wq_199_86 n (wq_199_25 n Q k) Q j v2 v3 (Int32.ofNat N) v6 v7 mi := by
        intro j
        induction j with
        | zero => intro v6 v7 mi k0 k1 k2; omega
        | succ j ij =>
          intro v6 v7 mi k0 k1 k2 kf kb km
          refine ⟨fun _ => nx _ mi kf kb, fun g9 => ⟨fun _ => nx _ mi kf kb, fun g6 => ?_⟩⟩
          have s7 := fb_addI (x := v7) (y := 1) (by omega) (by omega)
          have r6 := fb_rng v6
          have s6 := fb_addI (x := v6) (y := -1) (by omega) (by omega)
          refine ⟨fun gb => ⟨fun _ => ij _ _ mi (by omega) (by omega) (by omega) kf kb (fun _ => km g6), fun g0 => ?_⟩, fun _ => ij _ _ mi (by omega) (by omega) (by omega) kf kb km⟩
          have n6 : v6.toInt = 0 → ¬ 0 ≤ (v6 + (-1)).toInt := fun h z => by
            rw [s6, h] at z
            exact absurd z (by decide)
          have n7 : 0 ≤ (v7 + 1).toInt ∧ (v7 + 1).toInt ≤ 10 ∧ 10 - (v7 + 1).toInt < j := by omega
          have hbit := zbt_pos lN rfl (show v7.toInt.toNat < 10 by omega) (show v7.toInt = ((v7.toInt.toNat : Nat) : Int) by omega) gb
          have hm := tN v7.toInt.toNat (by omega) hbit
          rw [show ((v7.toInt.toNat : Nat) : Int) = v7.toInt by omega] at hm
          have hm' := (km g6 v7.toInt).mpr hm
          exact zs_169 kb ⟨k0, g9⟩ hm' (fun m8 z8 f8 => ij _ _ m8 n7.1 n7.2.1 n7.2.2 (zgr_trans kf f8) (by rw [z8]; exact zB_act kb hm') (fun z => absurd z (n6 g0)))
      have lp42 : ∀ (j : Nat) (v5 v6 : Int32), 0 ≤ v6.toInt → v6.toInt ≤ 10 → 10 - v6.toInt < j → 0 ≤ v5.toInt → v5.toInt ≤ v6.toInt → wq_199_42 n (wq_199_25 n Q k) Q j v2 v3 (Int32.ofNat N) v5 v6 mj := by
        intro j
        induction j with
        | zero => intro v5 v6 k0 k1 k2; omega
        | succ j ij =>
          intro v5 v6 k0 k1 k2 k3 k4
          refine ⟨fun _ => ⟨fun g5 => zs_198 (by omega) (fun x m6 _ z6 f6 => ⟨12, lp86 12 x 0 m6 (by decide) (by decide) (by decide) (zgr_trans hf f6) ?_ ?_⟩), fun _ => nx _ mj hf hb⟩, fun g9 => ?_⟩
          · rw [z6]
            exact zB_next hb
          · intro _ a
            rw [z6]
            exact zmay_seed
          · have s6 := fb_addI (x := v6) (y := 1) (by omega) (by omega)
            have bt : 0 ≤ ((((Int32.ofNat N) >>> (v6 &&& 31)) &&& 1)).toInt ∧ ((((Int32.ofNat N) >>> (v6 &&& 31)) &&& 1)).toInt ≤ 1 := zand1 _
            have s5 := fb_addI (x := v5) (y := ((Int32.ofNat N) >>> (v6 &&& 31)) &&& 1) (by omega) (by omega)
            exact ij _ _ (by omega) (by omega) (by omega) (by omega) (by omega)
      exact ⟨12, lp42 12 0 0 (by decide) (by decide) (by decide) (by decide) (by decide)⟩
  exact ⟨fun _ => R (by decide), fun g1 => ⟨fun g60 => ⟨62, lp g60 62 _ 0 m (by decide) (by show (0 : Int) ≤ _; omega) (by show n.toInt - 0 < _; omega) zgr_refl hJ.1⟩, fun _ => R (by decide)⟩⟩
-- sums on the stile
abbrev zgE (m m' : zf_Me) : Prop := zgr' (fun a k => (a = 63 ∧ k = 51) ∨ a = 85) m m'
theorem zgE_t {a b c : zf_Me} (h : zgE a b) (k : zgE b c) : zgE a c := zgr_trans h k
theorem zgE_u {m' : zf_Me} {c k : Nat} {x : Int32} (h : zgE m m') (hc : (c = 63 ∧ k = 51) ∨ c = 85) : zgE m (zf_u m' c k x) := zgr_u h hc
abbrev zrn (m : zf_Me) (k : Int) : Prop := 0 ≤ (m.1 63 51).toInt ∧ (m.1 63 51).toInt ≤ k
theorem zs_202 {v : Int32} {k : Int} (hk : k ≤ 40) (h : zrn m k) {Q : zf_Me → Prop} (hq : ∀ m', zgE m m' → zrn m' (k + 1) → Q m') : wp_202 v m Q := by
  have e1 : (1 : Int32).toInt = 1 := rfl
  have t19 : ∀ mj : zf_Me, zgE m mj → mj.1 63 51 = m.1 63 51 → wq_202_19 v mj Q := fun mj f e m1 q1 => by
    have s := fb_addI (x := m.1 63 51) (y := 1) (by omega) (by omega)
    refine hq m1 (by rw [q1]; exact zgE_u f (by omega)) ?_
    unfold zrn
    rw [q1, zf_u3, e]
    omega
  refine ⟨fun _ => t19 m zgr_refl rfl, fun g => ⟨by omega, fun m3 q3 => t19 m3 ?_ ?_⟩⟩
  · rw [q3]
    exact zgE_u zgr_refl (by omega)
  · rw [q3, zf_u1 (by decide)]
theorem zrn_le {k k' : Int} (h : zrn m k) (hk : k ≤ k') : zrn m k' := ⟨h.1, by have := h.2; omega⟩
theorem zs_203 {p v : Int32} (hp : 0 ≤ p.toInt ∧ p.toInt < 6) {k : Int} (hk : k ≤ 30) (h : zrn m k) {Q : Int32 → zf_Me → Prop} (hq : ∀ x m', zgE m m' → zrn m' (k + 4) → Q x m') : wp_203 p v m Q := by
  have t101 : ∀ v3 v4 mj, zgE m mj → zrn mj (k + 4) → wq_203_101 p v v3 v4 mj Q := fun v3 v4 mj f r => ⟨fun _ => hq _ mj f r, fun _ => hq _ mj f r⟩
  have t84 : ∀ v3 v4 mj, zgE m mj → zrn mj (k + 4) → wq_203_84 p v v3 v4 mj Q := fun v3 v4 mj f r => ⟨fun _ => t101 _ _ mj f r, fun _ => ⟨fun _ => t101 _ _ mj f r, fun _ => t101 _ _ mj f r⟩⟩
  have t73 : ∀ v3 v4 mj, zgE m mj → zrn mj (k + 4) → wq_203_73 p v v3 v4 mj Q := fun v3 v4 mj f r => ⟨hp, t84 _ _ mj f r⟩
  have t52 : ∀ v3 mj, zgE m mj → zrn mj (k + 3) → wq_203_52 p v v3 mj Q := fun v3 mj f r => zs_202 (by omega) r (fun m' f' r' => ⟨fun _ => t73 _ _ m' (zgE_t f f') (zrn_le r' (by omega)), fun _ => ⟨fun _ => t84 _ _ m' (zgE_t f f') (zrn_le r' (by omega)), fun _ => t73 _ _ m' (zgE_t f f') (zrn_le r' (by omega))⟩⟩)
  have t46 : ∀ v3 mj, zgE m mj → zrn mj (k + 2) → wq_203_46 p v v3 mj Q := fun v3 mj f r => zs_202 (by omega) r (fun m' f' r' => t52 _ m' (zgE_t f f') (zrn_le r' (by omega)))
  have t36 : ∀ v3 mj, zgE m mj → zrn mj (k + 2) → wq_203_36 p v v3 mj Q := fun v3 mj f r => ⟨fun _ => t46 _ mj f r, fun _ => ⟨fun _ => t52 _ mj f (zrn_le r (by omega)), fun _ => t46 _ mj f r⟩⟩
  have t30 : ∀ v3 mj, zgE m mj → zrn mj (k + 1) → wq_203_30 p v v3 mj Q := fun v3 mj f r => zs_202 (by omega) r (fun m' f' r' => t36 _ m' (zgE_t f f') (zrn_le r' (by omega)))
  have t19 : ∀ v3 mj, zgE m mj → zrn mj (k + 1) → wq_203_19 p v v3 mj Q := fun v3 mj f r => ⟨fun _ => t30 _ mj f r, fun _ => ⟨fun _ => t36 _ mj f (zrn_le r (by omega)), fun _ => t30 _ mj f r⟩⟩
  exact ⟨hp, fun _ => t19 _ m zgr_refl (zrn_le h (by omega)), fun _ => zs_202 (by omega) h (fun m' f' r' => t19 _ m' f' r')⟩
theorem zs_204 {p v : Int32} (hp : 0 ≤ p.toInt ∧ p.toInt < 6) {k : Int} (hk : k ≤ 20) (h : zrn m k) {Q : Int32 → zf_Me → Prop} (hq : ∀ x m', zgE m m' → zrn m' (k + 8) → Q x m') : wp_204 p v m Q := by
  have t76 : ∀ v4 v5 mj, zgE m mj → zrn mj (k + 3) → wq_204_76 p v v4 v5 mj Q := fun v4 v5 mj f r => zs_202 (by omega) r (fun m2 f2 r2 => zs_203 hp (by omega) r2 (fun x m4 f4 r4 => ⟨fun _ => hq _ m4 (zgE_t f (zgE_t f2 f4)) (zrn_le r4 (by omega)), fun _ => hq _ m4 (zgE_t f (zgE_t f2 f4)) (zrn_le r4 (by omega))⟩))
  have t63 : ∀ v4 u mj, zgE m mj → zrn mj (k + 2) → wq_204_63 p v v4 u mj Q := fun v4 u mj f r => ⟨fun _ => t76 _ _ mj f (zrn_le r (by omega)), fun _ => zs_202 (by omega) r (fun m2 f2 r2 => t76 _ _ m2 (zgE_t f f2) (zrn_le r2 (by omega)))⟩
  have t48 : ∀ v3 v4 mj, zgE m mj → zrn mj (k + 2) → wq_204_48 p v v3 v4 mj Q := fun v3 v4 mj f r => ⟨fun _ => t63 _ _ mj f r, fun _ => ⟨fun _ => t63 _ _ mj f r, fun _ => t63 _ _ mj f r⟩⟩
  have t32 : ∀ v3 v4 mj, zgE m mj → zrn mj (k + 1) → wq_204_32 p v v3 v4 mj Q := fun v3 v4 mj f r => ⟨fun _ => t48 _ _ mj f (zrn_le r (by omega)), fun _ => zs_202 (by omega) r (fun m2 f2 r2 => t48 _ _ m2 (zgE_t f f2) (zrn_le r2 (by omega)))⟩
  exact ⟨hp, fun _ => t32 _ _ m zgr_refl (zrn_le h (by omega)), fun _ => zs_202 (by omega) h (fun m' f' r' => ⟨hp, t32 _ _ m' f' r'⟩)⟩
theorem zs_205 {p v : Int32} (hp : 0 ≤ p.toInt ∧ p.toInt < 6) (h : zrn m 0) {Q : Int32 → zf_Me → Prop} (hq : ∀ x m', zgE m m' → Q x m') : wp_205 p v m Q := by
  have t35 : ∀ v3 mj, zgE m mj → zrn mj 2 → wq_205_35 p v v3 mj Q := fun v3 mj f r => zs_202 (by omega) r (fun m4 f4 r4 => zs_204 hp (by omega) r4 (fun x5 m6 f6 r6 => ⟨hp, zs_203 hp (by omega) r6 (fun x7 m8 f8 _ => by
    have F : zgE m m8 := zgE_t f (zgE_t f4 (zgE_t f6 f8))
    exact ⟨fun _ => hq _ m8 F, fun _ => ⟨fun _ => ⟨fun _ => hq _ m8 F, fun _ => hq _ m8 F⟩, fun _ => hq _ m8 F⟩⟩)⟩))
  have t24 : ∀ v3 mj, zgE m mj → zrn mj 1 → wq_205_24 p v v3 mj Q := fun v3 mj f r => ⟨fun _ => t35 _ mj f (zrn_le r (by omega)), fun _ => zs_202 (by omega) r (fun m2 f2 r2 => t35 _ m2 (zgE_t f f2) (zrn_le r2 (by omega)))⟩
  have t18 : ∀ v3, wq_205_18 p v v3 m Q := fun v3 => zs_202 (by omega) h (fun m2 f2 r2 => t24 _ m2 f2 (zrn_le r2 (by omega)))
  exact ⟨hp, fun _ => t18 _, fun _ => ⟨fun _ => t24 _ m zgr_refl (zrn_le h (by omega)), fun _ => t18 _⟩⟩
theorem zy_206 (hJ : JM m) {p w v : Int32} {Q : Int32 → zf_Me → Prop} (hq : ∀ (v : Int32) (m' : zf_Me), JM m' → zfd m m' → Q v m') : wp_206 p w v m Q := by
  intro m1 q1
  have f1 : zgE m m1 := by
    rw [q1]
    exact zgE_u zgr_refl (by omega)
  have K : ∀ v m', zgE m1 m' → Q v m' := fun v m' f => hq v m' (JM_b hJ (zgr_mono (zgE_t f1 f) (fun a k z => by omega)) (by rw [zr_of (zgE_t f1 f) (fun a k z => by omega)]; exact hJ.1)) (zfd_b (zgr_mono (zgE_t f1 f) (fun a k z => by omega)))
  have b1 : zB (zr m1) := by rw [zr_of f1 (fun a k z => by omega)]; exact hJ.1
  have b := zB_r b1
  have r : zrn m1 0 := by
    unfold zrn
    rw [q1, zf_u3]
    decide
  exact zs_128 (fun g => ⟨fun z => (nomatch z), fun _ => ⟨fun _ => K _ m1 zgr_refl, fun _ => ⟨fun _ => ⟨fun _ => ⟨fun _ => zs_205 (by omega) r (fun x m' f => K x m' f), fun _ => zs_204 (by omega) (by decide) r (fun x m' f _ => K x m' f)⟩, fun _ => zs_203 (by omega) (by decide) r (fun x m' f _ => K x m' f)⟩, fun _ => K _ m1 zgr_refl⟩⟩⟩) (fun _ => ⟨fun _ => K _ m1 zgr_refl, fun z => (nomatch z)⟩)
-- the search ahead
abbrev zgS (d : Int) (m m' : zf_Me) : Prop := zgr' (fun a k => zcore a k ∨ (a = 63 ∧ 40 ≤ k ∧ k ≤ 43) ∨ (a = 82 ∧ 90 * d ≤ k) ∨ a = 83 ∨ a = 84) m m'
theorem zgS_t {d : Int} {a b c : zf_Me} (h : zgS d a b) (k : zgS d b c) : zgS d a c := zgr_trans h k
theorem zgS_c {d : Int} {a b : zf_Me} (h : zgc a b) : zgS d a b := zgr_mono h (fun _ _ z => Or.inl z)
theorem zgS_u {d : Int} {m' : zf_Me} {c k : Nat} {x : Int32} (h : zgS d m m') (hc : (c = 63 ∧ 40 ≤ k ∧ k ≤ 43) ∨ c = 83 ∨ c = 84) : zgS d m (zf_u m' c k x) := zgr_u h (by omega)
theorem zs_174 : ∀ (n : Nat) {d e b : Int32} {m : zf_Me} {Q : zf_Me → Prop}, 0 ≤ d.toInt ∧ d.toInt ≤ e.toInt → e.toInt ≤ 4 → e.toInt - d.toInt < n → zB (zr m) → (∀ m', zgS d.toInt m m' → zr m' = zr m → Q m') → wp_174 n d e b m Q := by
  intro n
  induction n with
  | zero => intro d e b m Q h1 h2 h3; omega
  | succ n ih =>
    intro d e b m Q h1 h2 h3 hB hq
    have e1 : (1 : Int32).toInt = 1 := rfl
    have e90 : (90 : Int32).toInt = 90 := rfl
    have t93 : ∀ u, wq_174_93 (wp_174 n) d e b u m Q := fun u => ⟨fun _ m13 q13 m15 q15 m17 q17 m19 q19 => by
      have f19 : zgS d.toInt m m19 := by
        rw [q19, q17, q15, q13]
        exact zgS_u (zgS_u (zgS_u (zgS_u zgr_refl (by omega)) (by omega)) (by omega)) (by omega)
      have z19 : zr m19 = zr m := by rw [q19, zrk_44 (by decide), q17, zrk_44 (by decide), q15, zrk_44 (by decide), q13, zrk_44 (by decide)]
      have lp : ∀ (k : Nat) (v6 : Int32) (mj : zf_Me), 0 ≤ v6.toInt → v6.toInt ≤ d.toInt → d.toInt - v6.toInt < k → zgS d.toInt m mj → zr mj = zr m → wq_174_130 (wp_174 n) d e b Q k v6 mj := by
        intro k
        induction k with
        | zero => intro v6 mj k0 k1 k2; omega
        | succ k ik =>
          intro v6 mj k0 k1 k2 kf kz
          refine ⟨fun _ => hq mj kf kz, fun g => ⟨by omega, by omega, fun m21 q21 => ?_⟩⟩
          have t := fb_addI (x := v6) (y := 1) (by omega) (by omega)
          refine ik _ m21 (by omega) (by omega) (by omega) ?_ ?_
          · rw [q21]
            exact zgS_u kf (by omega)
          · rw [q21]
            exact (zr_fr (fun j hj => by rw [zf_u1 (by decide)]) (fun a _ _ => by rw [zf_u1 (by omega)])).trans kz
      exact ⟨6, lp 6 0 m19 (by decide) (by show (0 : Int) ≤ _; omega) (by show d.toInt - 0 < _; omega) f19 z19⟩, fun _ => hq m zgr_refl rfl⟩
    have t0 : wq_174_16 (wp_174 n) d e b m Q := ⟨fun z => absurd rfl z, fun _ => ⟨fun _ => t93 1, fun _ => ⟨fun _ => t93 1, fun _ => ⟨fun _ => t93 0, fun _ => ⟨fun _ => t93 1, fun _ => ⟨fun _ => t93 0, fun _ => ⟨fun _ => t93 0, fun _ => t93 1⟩⟩⟩⟩⟩⟩⟩
    refine ⟨fun _ => t0, fun ne => ⟨fun _ => zs_173 hB ?_, fun _ => t0⟩⟩
    obtain ⟨N, lN, eN, tN⟩ : ∃ N, N < 1024 ∧ Int32.ofNat (zbits (zr m) 10) = Int32.ofNat N ∧ ∀ k, k < 10 → N.testBit k = true → zmay (zr m) ((k : Nat) : Int) := ⟨zbits (zr m) 10, zbits_lt _ 10, rfl, fun k hk h => (zbits_test (zr m) k 10 hk).mp h⟩
    rw [eN]
    clear eN
    have sd := fb_addI (x := d) (y := 1) (by omega) (by omega)
    have md := fb_mulI (x := 90) (y := d) (by rw [e90]; omega) (by rw [e90]; omega)
    rw [e90] at md
    have zero : Int32.ofNat N = 0 → wq_174_24 (wp_174 n) d e b (Int32.ofNat N) m Q := fun z => by
      rw [z]
      exact t0
    by_cases hz : (Int32.ofNat N).toInt = 0
    · exact zero (by apply zi_inj; rw [hz]; rfl)
    refine ⟨fun _ => zs_161s (by decide) rfl ⟨by omega, by show _ + 79 ≤ (450 : Int); omega, by omega⟩ (fun m2 a2 f2 z2 => ?_), fun z => absurd z hz⟩
    have F2 : zgS d.toInt m m2 := zgr_mono f2 (fun a k z => by omega)
    have lp : ∀ (k : Nat) (v5 : Int32) (mj : zf_Me), 0 ≤ v5.toInt → v5.toInt ≤ 10 → 10 - v5.toInt < k → zgS d.toInt m mj → zr mj = zr m → zA 82 (90 * d).toInt.toNat mj = zr m → wq_174_173 (wp_174 n) d e b Q k (Int32.ofNat N) v5 mj := by
      intro k
      induction k with
      | zero => intro v5 mj k0 k1 k2; omega
      | succ k ik =>
        intro v5 mj k0 k1 k2 kf kz ka
        have t := fb_addI (x := v5) (y := 1) (by omega) (by omega)
        refine ⟨fun _ => hq mj kf kz, fun g9 => ⟨fun gb => ⟨by omega, fun m3 q3 => ?_⟩, fun _ => ik _ mj (by omega) (by omega) (by omega) kf kz ka⟩⟩
        have hbit := zbt_pos lN rfl (show v5.toInt.toNat < 10 by omega) (show v5.toInt = ((v5.toInt.toNat : Nat) : Int) by omega) gb
        have hm := tN v5.toInt.toNat (by omega) hbit
        rw [show ((v5.toInt.toNat : Nat) : Int) = v5.toInt by omega] at hm
        have z3 : zr m3 = zr m := by
          rw [q3]
          exact (zr_fr (fun j hj => by rw [zf_u1 (by decide)]) (fun a _ _ => by rw [zf_u1 (by omega)])).trans kz
        have f3 : zgS d.toInt mj m3 := by
          rw [q3]
          exact zgS_u zgr_refl (by omega)
        have a3 : zA 82 (90 * d).toInt.toNat m3 = zr m := by
          rw [← ka]
          exact zL_ext (fun i _ => by rw [q3, zf_u1 (by decide)])
        have b3 : zB (zr m3) := by rw [z3]; exact hB
        have m3y : zmay (zr m3) v5.toInt := by rw [z3]; exact hm
        refine zs_169 b3 ⟨k0, g9⟩ m3y (fun m6 z6 f6 => ?_)
        have b6 : zB (zr m6) := by rw [z6]; exact zB_act b3 m3y
        have a6 : zA 82 (90 * d).toInt.toNat m6 = zr m := by
          rw [zA_of f6 (fun k => by omega)]
          exact a3
        have go : ∀ u0 : Int32, wq_174_230 (wp_174 n) d e b (wq_174_173 (wp_174 n) d e b Q k) (Int32.ofNat N) v5 u0 e (d + 1) m6 Q := fun u0 => ih (by omega) (by omega) (by omega) b6 (fun m10 f10 _ => by
          refine zs_161b (by decide) (by decide) ⟨by omega, by show _ + 79 ≤ (450 : Int); omega, by omega⟩ (fun m12 z12 f12 => ?_)
          have a10 : zA 82 (90 * d).toInt.toNat m10 = zr m := by
            rw [← a6]
            exact zL_ext (fun i hi => by rw [f10.1 82 _ (by omega)])
          have F12 : zgS d.toInt m m12 := zgS_t kf (zgS_t f3 (zgS_t (zgS_c f6) (zgS_t (zgr_mono f10 (fun a k z => by omega)) (zgS_c f12))))
          refine ik _ m12 (by omega) (by omega) (by omega) F12 (z12.trans a10) ?_
          rw [zA_of f12 (fun k => by omega)]
          exact a10)
        exact zs_170 b6 (fun x _ => ⟨fun _ => go _, fun _ => go _⟩)
    exact ⟨12, lp 12 0 m2 (by decide) (by decide) (by decide) F2 z2 a2⟩
theorem zy_175 (hJ : JM m) {n w : Int32} {Q : Int32 → zf_Me → Prop} (hq : ∀ (v : Int32) (m' : zf_Me), JM m' → zfd m m' → Q v m') : wp_175 n w m Q := by
  have K : ∀ v m', zgQ m m' → zB (zr m') → Q v m' := fun v m' f b => hq v m' (JM_q hJ f b) (zfd_q f)
  have R : ∀ {w : Int32}, (-8 < w.toInt ∧ w.toInt ≤ 0) → wp_125 w m Q := fun hw => zk_125 hw hJ.1 K
  refine ⟨fun _ => R (by decide), fun gw => ⟨fun gw6 => ⟨fun _ => R (by decide), fun g1 => ⟨fun g4 m5 q5 => ?_, fun _ => R (by decide)⟩⟩, fun _ => R (by decide)⟩⟩
  have z5 : zr m5 = zr m := by rw [q5, zrk_44 (by decide)]
  have b5 : zB (zr m5) := by rw [z5]; exact hJ.1
  have f5 : zgS 0 m m5 := by
    rw [q5]
    exact zgS_u zgr_refl (by omega)
  refine zs_170 b5 (fun x7 _ => ⟨6, Nat.le_refl _, zs_174 6 ⟨by decide, by show (0 : Int) ≤ _; omega⟩ g4 (by show n.toInt - 0 < _; omega) b5 (fun m10 f10 z10 => ?_)⟩)
  have F : zgQ m m10 := zgr_mono (zgS_t f5 f10) (fun a k z => by omega)
  have B : zB (zr m10) := by rw [z10]; exact b5
  exact ⟨fun _ => ⟨fun _ => ⟨fun _ => ⟨fun _ => K _ m10 F B, fun _ => K _ m10 F B⟩, fun _ => K _ m10 F B⟩, fun _ => ⟨fun _ => zk_125 (by decide) B (fun v m' f b => K v m' (zgr_trans F f) b), fun _ => ⟨by omega, K _ m10 F B⟩⟩⟩, fun _ => K _ m10 F B⟩
end
