/-! part 67: the reference's told walks, summers, sums, the search ahead -/
theorem zand1 (x : Int32) : 0 ≤ (x &&& 1).toInt ∧ (x &&& 1).toInt ≤ 1 := by
  have h : (x &&& 1).toBitVec.toNat = x.toBitVec.toNat % 2 := by
    rw [Int32.toBitVec_and, BitVec.toNat_and]
    exact Nat.and_one_is_mod _
  have t : (x &&& 1).toInt = ((x &&& 1).toBitVec.toNat : Int) := BitVec.toInt_eq_toNat_of_lt (by omega)
  omega
section
variable {m : zf_Me}
theorem zs_198 {n : Int32} (hn : 0 < n.toInt) {Q : Int32 → zf_Me → Prop} (hq : ∀ (x : Int32) (m' : zf_Me), x.toInt = zup (znexts (zr m 5 12)) % n.toInt → zr m' = zU (zr m) 5 12 (znexts (zr m 5 12)) → zgc m m' → Q x m') : wp_198 n m Q := by
  intro m1 q1
  have es : (m.1 63 12 * 1103515245 + 12345).toInt = znexts (zr m 5 12) := by
    show _ = (Int32.ofInt (m.1 63 12).toInt * 1103515245 + 12345).toInt
    rw [Int32.ofInt_toInt]
  refine ⟨by omega, hq _ m1 ?_ ?_ ?_⟩
  · have b := zup_b (Int32.toUInt32 (m1.1 63 12))
    rw [zf_remG b.1 hn]
    have e : (m1.1 63 12) = Int32.ofInt (znexts (zr m 5 12)) := by
      rw [q1, zf_u3, ← es, Int32.ofInt_toInt]
    rw [e]
    rfl
  · rw [q1, zr_w12, es]
  · rw [q1]
    exact zgr_u zgr_refl (by omega)
theorem zB_next {f : zS} (h : zB f) : zB (zU f 5 12 (znexts (f 5 12))) := zB_seed (s := Int32.ofInt (f 5 12) * 1103515245 + 12345) h
theorem zbt_pos {N k : Nat} {v4 v7 : Int32} (hN : N < 1024) (h4 : v4 = Int32.ofNat N) (hk : k < 10) (h7 : v7.toInt = k) : (¬ (((v4 >>> (v7 &&& 31)) &&& 1)).toInt = 0) → N.testBit k = true := by
  intro g
  have e7 : v7 = Int32.ofNat k := zn_of _ _ h7
  rw [h4, e7] at g
  have t := zbt_ok N hN k hk
  cases h : N.testBit k with
  | true => rfl
  | false => exact absurd (t.mpr h) g
-- sums on the stile
abbrev zgE (m m' : zf_Me) : Prop := zgr' (fun a k => (a = 63 ∧ k = 51) ∨ a = 85) m m'
theorem zgE_t {a b c : zf_Me} (h : zgE a b) (k : zgE b c) : zgE a c := zgr_trans h k
theorem zgE_u {m' : zf_Me} {c k : Nat} {x : Int32} (h : zgE m m') (hc : (c = 63 ∧ k = 51) ∨ c = 85) : zgE m (zf_u m' c k x) := zgr_u h hc
abbrev zrn (m : zf_Me) (k : Int) : Prop := 0 ≤ (m.1 63 51).toInt ∧ (m.1 63 51).toInt ≤ k
theorem zrn_le {k k' : Int} (h : zrn m k) (hk : k ≤ k') : zrn m k' := ⟨h.1, by have := h.2; omega⟩
-- the search ahead
abbrev zgS (d : Int) (m m' : zf_Me) : Prop := zgr' (fun a k => zcore a k ∨ (a = 63 ∧ 40 ≤ k ∧ k ≤ 43) ∨ (a = 82 ∧ 90 * d ≤ k) ∨ a = 83 ∨ a = 84) m m'
theorem zgS_t {d : Int} {a b c : zf_Me} (h : zgS d a b) (k : zgS d b c) : zgS d a c := zgr_trans h k
theorem zgS_c {d : Int} {a b : zf_Me} (h : zgc a b) : zgS d a b := zgr_mono h (fun _ _ z => Or.inl z)
theorem zgS_u {d : Int} {m' : zf_Me} {c k : Nat} {x : Int32} (h : zgS d m m') (hc : (c = 63 ∧ 40 ≤ k ∧ k ≤ 43) ∨ c = 83 ∨ c = 84) : zgS d m (zf_u m' c k x) := zgr_u h (by omega)
theorem zs_174 : ∀ (n : Nat) {d e b : Int32} {m : zf_Me} {Q : zf_Me → Prop}, 0 ≤ d.toInt ∧ d.toInt ≤ e.toInt → e.toInt ≤ 4 → e.toInt - d.toInt < n → zB (zr m) → (∀ m', zgS d.toInt m m' → zr m' = zr m → Q m') → wp_174 n d e b m Q := by
  intro n
  induction n with
  | zero => intro d e b m Q h1 h2 h3; omega
  | succ n ih =>
    intro d e b m Q h1 h2 h3 hB hq
    have e1 : (1 : Int32).toInt = 1 := rfl
    have e90 : (90 : Int32).toInt = 90 := rfl
    have t93 : ∀ u, wq_174_93 (wp_174 n) d e b u m Q := fun u => ⟨fun _ m13 q13 m15 q15 m17 q17 m19 q19 => by
      have f19 : zgS d.toInt m m19 := by
        rw [q19, q17, q15, q13]
        exact zgS_u (zgS_u (zgS_u (zgS_u zgr_refl (by omega)) (by omega)) (by omega)) (by omega)
      have z19 : zr m19 = zr m := by rw [q19, zrk_44 (by decide), q17, zrk_44 (by decide), q15, zrk_44 (by decide), q13, zrk_44 (by decide)]
      have lp : ∀ (k : Nat) (v6 : Int32) (mj : zf_Me), 0 ≤ v6.toInt → v6.toInt ≤ d.toInt → d.toInt - v6.toInt < k → zgS d.toInt m mj → zr mj = zr m → wq_174_130 (wp_174 n) d e b Q k v6 mj := by
        intro k
        induction k with
        | zero => intro v6 mj k0 k1 k2; omega
        | succ k ik =>
          intro v6 mj k0 k1 k2 kf kz
          refine ⟨fun _ => hq mj kf kz, fun g => ⟨by omega, by omega, fun m21 q21 => ?_⟩⟩
          have t := fb_addI (x := v6) (y := 1) (by omega) (by omega)
          refine ik _ m21 (by omega) (by omega) (by omega) ?_ ?_
          · rw [q21]
            exact zgS_u kf (by omega)
          · rw [q21]
            exact (zr_fr (fun j hj => by rw [zf_u1 (by decide)]) (fun a _ _ => by rw [zf_u1 (by omega)])).trans kz
      exact ⟨6, lp 6 0 m19 (by decide) (by show (0 : Int) ≤ _; omega) (by show d.toInt - 0 < _; omega) f19 z19⟩, fun _ => hq m zgr_refl rfl⟩
    have t0 : wq_174_16 (wp_174 n) d e b m Q := ⟨fun z => absurd rfl z, fun _ => ⟨fun _ => t93 1, fun _ => ⟨fun _ => t93 1, fun _ => ⟨fun _ => t93 0, fun _ => ⟨fun _ => t93 1, fun _ => ⟨fun _ => t93 0, fun _ => ⟨fun _ => t93 0, fun _ => t93 1⟩⟩⟩⟩⟩⟩⟩
    refine ⟨fun _ => t0, fun ne => ⟨fun _ => zs_173 hB ?_, fun _ => t0⟩⟩
    obtain ⟨N, lN, eN, tN⟩ : ∃ N, N < 1024 ∧ Int32.ofNat (zbits (zr m) 10) = Int32.ofNat N ∧ ∀ k, k < 10 → N.testBit k = true → zmay (zr m) ((k : Nat) : Int) := ⟨zbits (zr m) 10, zbits_lt _ 10, rfl, fun k hk h => (zbits_test (zr m) k 10 hk).mp h⟩
    rw [eN]
    clear eN
    have sd := fb_addI (x := d) (y := 1) (by omega) (by omega)
    have md := fb_mulI (x := 90) (y := d) (by rw [e90]; omega) (by rw [e90]; omega)
    rw [e90] at md
    have zero : Int32.ofNat N = 0 → wq_174_24 (wp_174 n) d e b (Int32.ofNat N) m Q := fun z => by
      rw [z]
      exact t0
    by_cases hz : (Int32.ofNat N).toInt = 0
    · exact zero (by apply zi_inj; rw [hz]; rfl)
    refine ⟨fun _ => zs_161s (by decide) rfl ⟨by omega, by show _ + 79 ≤ (450 : Int); omega, by omega⟩ (fun m2 a2 f2 z2 => ?_), fun z => absurd z hz⟩
    have F2 : zgS d.toInt m m2 := zgr_mono f2 (fun a k z => by omega)
    have lp : ∀ (k : Nat) (v5 : Int32) (mj : zf_Me), 0 ≤ v5.toInt → v5.toInt ≤ 10 → 10 - v5.toInt < k → zgS d.toInt m mj → zr mj = zr m → zA 82 (90 * d).toInt.toNat mj = zr m → wq_174_173 (wp_174 n) d e b Q k (Int32.ofNat N) v5 mj := by
      intro k
      induction k with
      | zero => intro v5 mj k0 k1 k2; omega
      | succ k ik =>
        intro v5 mj k0 k1 k2 kf kz ka
        have t := fb_addI (x := v5) (y := 1) (by omega) (by omega)
        refine ⟨fun _ => hq mj kf kz, fun g9 => ⟨fun gb => ⟨by omega, fun m3 q3 => ?_⟩, fun _ => ik _ mj (by omega) (by omega) (by omega) kf kz ka⟩⟩
        have hbit := zbt_pos lN rfl (show v5.toInt.toNat < 10 by omega) (show v5.toInt = ((v5.toInt.toNat : Nat) : Int) by omega) gb
        have hm := tN v5.toInt.toNat (by omega) hbit
        rw [show ((v5.toInt.toNat : Nat) : Int) = v5.toInt by omega] at hm
        have z3 : zr m3 = zr m := by
          rw [q3]
          exact (zr_fr (fun j hj => by rw [zf_u1 (by decide)]) (fun a _ _ => by rw [zf_u1 (by omega)])).trans kz
        have f3 : zgS d.toInt mj m3 := by
          rw [q3]
          exact zgS_u zgr_refl (by omega)
        have a3 : zA 82 (90 * d).toInt.toNat m3 = zr m := by
          rw [← ka]
          exact zL_ext (fun i _ => by rw [q3, zf_u1 (by decide)])
        have b3 : zB (zr m3) := by rw [z3]; exact hB
        have m3y : zmay (zr m3) v5.toInt := by rw [z3]; exact hm
        refine zs_169 b3 ⟨k0, g9⟩ m3y (fun m6 z6 f6 => ?_)
        have b6 : zB (zr m6) := by rw [z6]; exact zB_act b3 m3y
        have a6 : zA 82 (90 * d).toInt.toNat m6 = zr m := by
          rw [zA_of f6 (fun k => by omega)]
          exact a3
        have go : ∀ u0 : Int32, wq_174_230 (wp_174 n) d e b (wq_174_173 (wp_174 n) d e b Q k) (Int32.ofNat N) v5 u0 e (d + 1) m6 Q := fun u0 => ih (by omega) (by omega) (by omega) b6 (fun m10 f10 _ => by
          refine zs_161b (by decide) (by decide) ⟨by omega, by show _ + 79 ≤ (450 : Int); omega, by omega⟩ (fun m12 z12 f12 => ?_)
          have a10 : zA 82 (90 * d).toInt.toNat m10 = zr m := by
            rw [← a6]
            exact zL_ext (fun i hi => by rw [f10.1 82 _ (by omega)])
          have F12 : zgS d.toInt m m12 := zgS_t kf (zgS_t f3 (zgS_t (zgS_c f6) (zgS_t (zgr_mono f10 (fun a k z => by omega)) (zgS_c f12))))
          refine ik _ m12 (by omega) (by omega) (by omega) F12 (z12.trans a10) ?_
          rw [zA_of f12 (fun k => by omega)]
          exact a10)
        exact zs_170 b6 (fun x _ => ⟨fun _ => go _, fun _ => go _⟩)
    exact ⟨12, lp 12 0 m2 (by decide) (by decide) (by decide) F2 z2 a2⟩
end
