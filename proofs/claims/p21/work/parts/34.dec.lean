/-! part 34: methods 102..: laid by wip/flat/dec.py -/
def zt_102 : zx_MT := (7, yX7_day, cX7_day, 3, (some FieldType.int), 0, 0)
theorem zm_102 : zx_m 102 = zt_102 := rfl
theorem dX7_day_r0 : zdcP cX7_day 0 [(.aload_n 0, 1), (.getfield 23, 3), (.getfield 221, 3), (.istore_n 1, 1), (.aload_n 0, 1), (.getfield 23, 3), (.iconst 0, 1), (.putfield 221, 3), (.aload_n 0, 1), (.getfield 23, 3), (.iconst 0, 1), (.putfield 230, 3), (.aload_n 0, 1), (.getfield 23, 3), (.iconst 0, 1), (.putfield 304, 3)] := zdcA_ok (by decide +kernel)
theorem dX7_day_0 : decode cX7_day 0 = .ok (.aload_n 0, 1) := dX7_day_r0.1
theorem dX7_day_1 : decode cX7_day 1 = .ok (.getfield 23, 3) := dX7_day_r0.2.1
theorem dX7_day_4 : decode cX7_day 4 = .ok (.getfield 221, 3) := dX7_day_r0.2.2.1
theorem dX7_day_7 : decode cX7_day 7 = .ok (.istore_n 1, 1) := dX7_day_r0.2.2.2.1
theorem dX7_day_8 : decode cX7_day 8 = .ok (.aload_n 0, 1) := dX7_day_r0.2.2.2.2.1
theorem dX7_day_9 : decode cX7_day 9 = .ok (.getfield 23, 3) := dX7_day_r0.2.2.2.2.2.1
theorem dX7_day_12 : decode cX7_day 12 = .ok (.iconst 0, 1) := dX7_day_r0.2.2.2.2.2.2.1
theorem dX7_day_13 : decode cX7_day 13 = .ok (.putfield 221, 3) := dX7_day_r0.2.2.2.2.2.2.2.1
theorem dX7_day_16 : decode cX7_day 16 = .ok (.aload_n 0, 1) := dX7_day_r0.2.2.2.2.2.2.2.2.1
theorem dX7_day_17 : decode cX7_day 17 = .ok (.getfield 23, 3) := dX7_day_r0.2.2.2.2.2.2.2.2.2.1
theorem dX7_day_20 : decode cX7_day 20 = .ok (.iconst 0, 1) := dX7_day_r0.2.2.2.2.2.2.2.2.2.2.1
theorem dX7_day_21 : decode cX7_day 21 = .ok (.putfield 230, 3) := dX7_day_r0.2.2.2.2.2.2.2.2.2.2.2.1
theorem dX7_day_24 : decode cX7_day 24 = .ok (.aload_n 0, 1) := dX7_day_r0.2.2.2.2.2.2.2.2.2.2.2.2.1
theorem dX7_day_25 : decode cX7_day 25 = .ok (.getfield 23, 3) := dX7_day_r0.2.2.2.2.2.2.2.2.2.2.2.2.2.1
theorem dX7_day_28 : decode cX7_day 28 = .ok (.iconst 0, 1) := dX7_day_r0.2.2.2.2.2.2.2.2.2.2.2.2.2.2.1
theorem dX7_day_29 : decode cX7_day 29 = .ok (.putfield 304, 3) := dX7_day_r0.2.2.2.2.2.2.2.2.2.2.2.2.2.2.2.1
theorem dX7_day_r32 : zdcP cX7_day 32 [(.aload_n 0, 1), (.getfield 23, 3), (.aload_n 0, 1), (.getfield 23, 3), (.getfield 307, 3), (.putfield 277, 3), (.iconst 0, 1), (.istore_n 2, 1), (.iload_n 2, 1), (.bipush 6, 2), (.if_icmp .ge 19, 3), (.aload_n 0, 1), (.getfield 23, 3), (.getfield 143, 3), (.iload_n 2, 1), (.iconst 0, 1)] := zdcA_ok (by decide +kernel)
theorem dX7_day_32 : decode cX7_day 32 = .ok (.aload_n 0, 1) := dX7_day_r32.1
theorem dX7_day_33 : decode cX7_day 33 = .ok (.getfield 23, 3) := dX7_day_r32.2.1
theorem dX7_day_36 : decode cX7_day 36 = .ok (.aload_n 0, 1) := dX7_day_r32.2.2.1
theorem dX7_day_37 : decode cX7_day 37 = .ok (.getfield 23, 3) := dX7_day_r32.2.2.2.1
theorem dX7_day_40 : decode cX7_day 40 = .ok (.getfield 307, 3) := dX7_day_r32.2.2.2.2.1
theorem dX7_day_43 : decode cX7_day 43 = .ok (.putfield 277, 3) := dX7_day_r32.2.2.2.2.2.1
theorem dX7_day_46 : decode cX7_day 46 = .ok (.iconst 0, 1) := dX7_day_r32.2.2.2.2.2.2.1
theorem dX7_day_47 : decode cX7_day 47 = .ok (.istore_n 2, 1) := dX7_day_r32.2.2.2.2.2.2.2.1
theorem dX7_day_48 : decode cX7_day 48 = .ok (.iload_n 2, 1) := dX7_day_r32.2.2.2.2.2.2.2.2.1
theorem dX7_day_49 : decode cX7_day 49 = .ok (.bipush 6, 2) := dX7_day_r32.2.2.2.2.2.2.2.2.2.1
theorem dX7_day_51 : decode cX7_day 51 = .ok (.if_icmp .ge 19, 3) := dX7_day_r32.2.2.2.2.2.2.2.2.2.2.1
theorem dX7_day_54 : decode cX7_day 54 = .ok (.aload_n 0, 1) := dX7_day_r32.2.2.2.2.2.2.2.2.2.2.2.1
theorem dX7_day_55 : decode cX7_day 55 = .ok (.getfield 23, 3) := dX7_day_r32.2.2.2.2.2.2.2.2.2.2.2.2.1
theorem dX7_day_58 : decode cX7_day 58 = .ok (.getfield 143, 3) := dX7_day_r32.2.2.2.2.2.2.2.2.2.2.2.2.2.1
theorem dX7_day_61 : decode cX7_day 61 = .ok (.iload_n 2, 1) := dX7_day_r32.2.2.2.2.2.2.2.2.2.2.2.2.2.2.1
theorem dX7_day_62 : decode cX7_day 62 = .ok (.iconst 0, 1) := dX7_day_r32.2.2.2.2.2.2.2.2.2.2.2.2.2.2.2.1
theorem dX7_day_r63 : zdcP cX7_day 63 [(.iastore, 1), (.iinc 2 1, 3), (.goto (-19), 3), (.iload_n 1, 1), (.ireturn, 1)] := zdcA_ok (by decide +kernel)
theorem dX7_day_63 : decode cX7_day 63 = .ok (.iastore, 1) := dX7_day_r63.1
theorem dX7_day_64 : decode cX7_day 64 = .ok (.iinc 2 1, 3) := dX7_day_r63.2.1
theorem dX7_day_67 : decode cX7_day 67 = .ok (.goto (-19), 3) := dX7_day_r63.2.2.1
theorem dX7_day_70 : decode cX7_day 70 = .ok (.iload_n 1, 1) := dX7_day_r63.2.2.2.1
theorem dX7_day_71 : decode cX7_day 71 = .ok (.ireturn, 1) := dX7_day_r63.2.2.2.2.1
def wq_102_48 (Q : Int32 → zf_Me → Prop) : Nat → Int32 → Int32 → zf_Me → Prop
  | 0, _, _, _ => False
  | n + 1, v1, v2, m => ((v2.toInt ≥ 6 → Q v1 m) ∧ (v2.toInt < 6 → ((0 ≤ (Int32.toInt v2) ∧ (Int32.toInt v2) < (6 : Int)) ∧ ∀ m9, m9 = zf_u m 8 (Int32.toInt v2).toNat 0 → wq_102_48 Q n v1 (v2 + 1) m9)))
theorem zq_102_48 {d : Nat} (hd : 0 ≤ d) {Q : Int32 → zf_Me → Prop} : ∀ (n : Nat) (v1 : Int32) (v2 : Int32) (m : zf_Me), wq_102_48 Q n v1 v2 m → zf_W none 0 0 d zt_102 48 [some (.inr (.inr (1, 0))), some (.inl v1), some (.inl v2)] [] m (zf_I Q) := by
  intro n
  induction n with
  | zero =>
    intro v1 v2 m h
    exact h.elim
  | succ n ih =>
    intro v1 v2 m h
    unfold wq_102_48 at h
    refine zf_ld (pc' := 49) (v := .inl v2) dX7_day_48 rfl (fun _ _ _ => rfl) rfl rfl rfl ?_
    refine zf_bi (v := 6) (pc' := 51) dX7_day_49 rfl rfl ?_
    refine zf_icmp_ge (tgt := 70) (pc' := 54) dX7_day_51 rfl rfl (fun g => ?_) (fun g => ?_)
    · replace h := h.1 g
      refine zf_ld (pc' := 71) (v := .inl v1) dX7_day_70 rfl (fun _ _ _ => rfl) rfl rfl rfl ?_
      exact zf_ri dX7_day_71 rfl h
    · replace h := h.2 g
      refine zf_ld (pc' := 55) (v := .inr (.inr (1, 0))) dX7_day_54 rfl (fun _ _ _ => rfl) rfl rfl rfl ?_
      refine zf_gfr (pc' := 58) (b := 2) dX7_day_55 rfl rfl (by decide) rfl rfl ?_
      refine zf_gfr (pc' := 61) (b := 8) dX7_day_58 rfl rfl zf_walk2.1 zf_walk2.2.1 rfl ?_
      refine zf_ld (pc' := 62) (v := .inl v2) dX7_day_61 rfl (fun _ _ _ => rfl) rfl rfl rfl ?_
      refine zf_ic (v := 0) (pc' := 63) dX7_day_62 rfl rfl ?_
      refine zf_ias (pc' := 64) dX7_day_63 rfl zf_walk2.2.2.2.1 zf_walk2.2.2.2.2 h.1 rfl (fun m9 e10 => ?_)
      replace h := h.2 m9 e10
      refine zf_ii (y := (v2 + 1)) (L2 := [some (.inr (.inr (1, 0))), some (.inl v1), some (.inl (v2 + 1))]) (pc' := 67) dX7_day_64 rfl rfl rfl rfl rfl ?_
      refine zf_goto (tgt := 48) dX7_day_67 rfl ?_
      exact zf_lo (ih _ _ _ h) ⟨rfl, rfl, rfl, trivial⟩
def wp_102 (m : zf_Me) (Q : Int32 → zf_Me → Prop) : Prop := (∀ m1, m1 = zf_u m 2 10 0 → (∀ m3, m3 = zf_u m1 2 11 0 → (∀ m5, m5 = zf_u m3 2 6 0 → (∀ m7, m7 = zf_u m5 2 4 (m5.1 2 3) → (∃ n48, wq_102_48 Q n48 (m.1 2 10) 0 m7)))))
theorem zr_102 {d : Nat} (hd : 0 ≤ d) {Q : Int32 → zf_Me → Prop} {m : zf_Me} (h : wp_102 m Q) : zf_M d 102 [.inr (.inr (1, 0))] m (zf_I Q) := by
  unfold wp_102 at h
  refine zf_M_of (Nat.le_of_ble_eq_true rfl) zm_102 (L := [some (.inr (.inr (1, 0))), none, none]) rfl ?_
  refine zf_ld (pc' := 1) (v := .inr (.inr (1, 0))) dX7_day_0 rfl (fun _ _ _ => rfl) rfl rfl rfl ?_
  refine zf_gfr (pc' := 4) (b := 2) dX7_day_1 rfl rfl (by decide) rfl rfl ?_
  refine zf_gfi (pc' := 7) dX7_day_4 rfl rfl zf_walk2.1 zf_walk2.2.1 rfl ?_
  refine zf_st (pc' := 8) (L2 := [some (.inr (.inr (1, 0))), some (.inl (m.1 2 10)), none]) dX7_day_7 rfl (fun _ _ _ => rfl) rfl rfl rfl rfl rfl rfl ?_
  refine zf_ld (pc' := 9) (v := .inr (.inr (1, 0))) dX7_day_8 rfl (fun _ _ _ => rfl) rfl rfl rfl ?_
  refine zf_gfr (pc' := 12) (b := 2) dX7_day_9 rfl rfl (by decide) rfl rfl ?_
  refine zf_ic (v := 0) (pc' := 13) dX7_day_12 rfl rfl ?_
  refine zf_pf (pc' := 16) dX7_day_13 rfl rfl zf_walk2.1 zf_walk2.2.1 rfl rfl (fun m1 e2 => ?_)
  replace h := h m1 e2
  refine zf_ld (pc' := 17) (v := .inr (.inr (1, 0))) dX7_day_16 rfl (fun _ _ _ => rfl) rfl rfl rfl ?_
  refine zf_gfr (pc' := 20) (b := 2) dX7_day_17 rfl rfl (by decide) rfl rfl ?_
  refine zf_ic (v := 0) (pc' := 21) dX7_day_20 rfl rfl ?_
  refine zf_pf (pc' := 24) dX7_day_21 rfl rfl zf_walk2.1 zf_walk2.2.1 rfl rfl (fun m3 e4 => ?_)
  replace h := h m3 e4
  refine zf_ld (pc' := 25) (v := .inr (.inr (1, 0))) dX7_day_24 rfl (fun _ _ _ => rfl) rfl rfl rfl ?_
  refine zf_gfr (pc' := 28) (b := 2) dX7_day_25 rfl rfl (by decide) rfl rfl ?_
  refine zf_ic (v := 0) (pc' := 29) dX7_day_28 rfl rfl ?_
  refine zf_pf (pc' := 32) dX7_day_29 rfl rfl zf_walk2.1 zf_walk2.2.1 rfl rfl (fun m5 e6 => ?_)
  replace h := h m5 e6
  refine zf_ld (pc' := 33) (v := .inr (.inr (1, 0))) dX7_day_32 rfl (fun _ _ _ => rfl) rfl rfl rfl ?_
  refine zf_gfr (pc' := 36) (b := 2) dX7_day_33 rfl rfl (by decide) rfl rfl ?_
  refine zf_ld (pc' := 37) (v := .inr (.inr (1, 0))) dX7_day_36 rfl (fun _ _ _ => rfl) rfl rfl rfl ?_
  refine zf_gfr (pc' := 40) (b := 2) dX7_day_37 rfl rfl (by decide) rfl rfl ?_
  refine zf_gfi (pc' := 43) dX7_day_40 rfl rfl zf_walk2.1 zf_walk2.2.1 rfl ?_
  refine zf_pf (pc' := 46) dX7_day_43 rfl rfl zf_walk2.1 zf_walk2.2.1 rfl rfl (fun m7 e8 => ?_)
  replace h := h m7 e8
  refine zf_ic (v := 0) (pc' := 47) dX7_day_46 rfl rfl ?_
  refine zf_st (pc' := 48) (L2 := [some (.inr (.inr (1, 0))), some (.inl (m.1 2 10)), some (.inl 0)]) dX7_day_47 rfl (fun _ _ _ => rfl) rfl rfl rfl rfl rfl rfl ?_
  obtain ⟨n48, h⟩ := h
  exact zf_lo (zq_102_48 (by omega) n48 _ _ _ h) ⟨rfl, rfl, rfl, trivial⟩
def zt_103 : zx_MT := (7, yX7_seed, cX7_seed, 3, (some FieldType.int), 1, 0)
theorem zm_103 : zx_m 103 = zt_103 := rfl
theorem dX7_seed_r0 : zdcP cX7_seed 0 [(.aload_n 0, 1), (.getfield 23, 3), (.getfield 310, 3), (.istore_n 2, 1), (.aload_n 0, 1), (.getfield 23, 3), (.iload_n 1, 1), (.putfield 310, 3), (.iload_n 2, 1), (.ireturn, 1)] := zdcA_ok (by decide +kernel)
theorem dX7_seed_0 : decode cX7_seed 0 = .ok (.aload_n 0, 1) := dX7_seed_r0.1
theorem dX7_seed_1 : decode cX7_seed 1 = .ok (.getfield 23, 3) := dX7_seed_r0.2.1
theorem dX7_seed_4 : decode cX7_seed 4 = .ok (.getfield 310, 3) := dX7_seed_r0.2.2.1
theorem dX7_seed_7 : decode cX7_seed 7 = .ok (.istore_n 2, 1) := dX7_seed_r0.2.2.2.1
theorem dX7_seed_8 : decode cX7_seed 8 = .ok (.aload_n 0, 1) := dX7_seed_r0.2.2.2.2.1
theorem dX7_seed_9 : decode cX7_seed 9 = .ok (.getfield 23, 3) := dX7_seed_r0.2.2.2.2.2.1
theorem dX7_seed_12 : decode cX7_seed 12 = .ok (.iload_n 1, 1) := dX7_seed_r0.2.2.2.2.2.2.1
theorem dX7_seed_13 : decode cX7_seed 13 = .ok (.putfield 310, 3) := dX7_seed_r0.2.2.2.2.2.2.2.1
theorem dX7_seed_16 : decode cX7_seed 16 = .ok (.iload_n 2, 1) := dX7_seed_r0.2.2.2.2.2.2.2.2.1
theorem dX7_seed_17 : decode cX7_seed 17 = .ok (.ireturn, 1) := dX7_seed_r0.2.2.2.2.2.2.2.2.2.1
def wp_103 (v1 : Int32) (m : zf_Me) (Q : Int32 → zf_Me → Prop) : Prop := (∀ m1, m1 = zf_u m 2 12 v1 → Q (m.1 2 12) m1)
theorem zr_103 {d : Nat} (hd : 0 ≤ d) {v1 : Int32} {Q : Int32 → zf_Me → Prop} {m : zf_Me} (h : wp_103 v1 m Q) : zf_M d 103 [.inr (.inr (1, 0)), .inl v1] m (zf_I Q) := by
  unfold wp_103 at h
  refine zf_M_of (Nat.le_of_ble_eq_true rfl) zm_103 (L := [some (.inr (.inr (1, 0))), some (.inl v1), none]) rfl ?_
  refine zf_ld (pc' := 1) (v := .inr (.inr (1, 0))) dX7_seed_0 rfl (fun _ _ _ => rfl) rfl rfl rfl ?_
  refine zf_gfr (pc' := 4) (b := 2) dX7_seed_1 rfl rfl (by decide) rfl rfl ?_
  refine zf_gfi (pc' := 7) dX7_seed_4 rfl rfl zf_walk2.1 zf_walk2.2.1 rfl ?_
  refine zf_st (pc' := 8) (L2 := [some (.inr (.inr (1, 0))), some (.inl v1), some (.inl (m.1 2 12))]) dX7_seed_7 rfl (fun _ _ _ => rfl) rfl rfl rfl rfl rfl rfl ?_
  refine zf_ld (pc' := 9) (v := .inr (.inr (1, 0))) dX7_seed_8 rfl (fun _ _ _ => rfl) rfl rfl rfl ?_
  refine zf_gfr (pc' := 12) (b := 2) dX7_seed_9 rfl rfl (by decide) rfl rfl ?_
  refine zf_ld (pc' := 13) (v := .inl v1) dX7_seed_12 rfl (fun _ _ _ => rfl) rfl rfl rfl ?_
  refine zf_pf (pc' := 16) dX7_seed_13 rfl rfl zf_walk2.1 zf_walk2.2.1 rfl rfl (fun m1 e2 => ?_)
  replace h := h m1 e2
  refine zf_ld (pc' := 17) (v := .inl (m.1 2 12)) dX7_seed_16 rfl (fun _ _ _ => rfl) rfl rfl rfl ?_
  exact zf_ri dX7_seed_17 rfl h
def zt_104 : zx_MT := (7, yX7_act, cX7_act, 4, (some FieldType.int), 3, 0)
theorem zm_104 : zx_m 104 = zt_104 := rfl
theorem dX7_act_r0 : zdcP cX7_act 0 [(.aload_n 0, 1), (.getfield 23, 3), (.getfield 30, 3), (.iload_n 1, 1), (.invokevirtual 118, 3), (.ifCond .eq 12, 3), (.iload_n 2, 1), (.ifCond .lt 8, 3), (.iload_n 2, 1), (.iconst 3, 1), (.if_icmp .lt 12, 3), (.aload_n 0, 1), (.getfield 61, 3), (.invokevirtual 313, 3), (.iconst 0, 1), (.ireturn, 1)] := zdcA_ok (by decide +kernel)
theorem dX7_act_0 : decode cX7_act 0 = .ok (.aload_n 0, 1) := dX7_act_r0.1
theorem dX7_act_1 : decode cX7_act 1 = .ok (.getfield 23, 3) := dX7_act_r0.2.1
theorem dX7_act_4 : decode cX7_act 4 = .ok (.getfield 30, 3) := dX7_act_r0.2.2.1
theorem dX7_act_7 : decode cX7_act 7 = .ok (.iload_n 1, 1) := dX7_act_r0.2.2.2.1
theorem dX7_act_8 : decode cX7_act 8 = .ok (.invokevirtual 118, 3) := dX7_act_r0.2.2.2.2.1
theorem dX7_act_11 : decode cX7_act 11 = .ok (.ifCond .eq 12, 3) := dX7_act_r0.2.2.2.2.2.1
theorem dX7_act_14 : decode cX7_act 14 = .ok (.iload_n 2, 1) := dX7_act_r0.2.2.2.2.2.2.1
theorem dX7_act_15 : decode cX7_act 15 = .ok (.ifCond .lt 8, 3) := dX7_act_r0.2.2.2.2.2.2.2.1
theorem dX7_act_18 : decode cX7_act 18 = .ok (.iload_n 2, 1) := dX7_act_r0.2.2.2.2.2.2.2.2.1
theorem dX7_act_19 : decode cX7_act 19 = .ok (.iconst 3, 1) := dX7_act_r0.2.2.2.2.2.2.2.2.2.1
theorem dX7_act_20 : decode cX7_act 20 = .ok (.if_icmp .lt 12, 3) := dX7_act_r0.2.2.2.2.2.2.2.2.2.2.1
theorem dX7_act_23 : decode cX7_act 23 = .ok (.aload_n 0, 1) := dX7_act_r0.2.2.2.2.2.2.2.2.2.2.2.1
theorem dX7_act_24 : decode cX7_act 24 = .ok (.getfield 61, 3) := dX7_act_r0.2.2.2.2.2.2.2.2.2.2.2.2.1
theorem dX7_act_27 : decode cX7_act 27 = .ok (.invokevirtual 313, 3) := dX7_act_r0.2.2.2.2.2.2.2.2.2.2.2.2.2.1
theorem dX7_act_30 : decode cX7_act 30 = .ok (.iconst 0, 1) := dX7_act_r0.2.2.2.2.2.2.2.2.2.2.2.2.2.2.1
theorem dX7_act_31 : decode cX7_act 31 = .ok (.ireturn, 1) := dX7_act_r0.2.2.2.2.2.2.2.2.2.2.2.2.2.2.2.1
theorem dX7_act_r32 : zdcP cX7_act 32 [(.aload_n 0, 1), (.getfield 61, 3), (.aload_n 0, 1), (.getfield 23, 3), (.getfield 30, 3), (.iload_n 1, 1), (.iload_n 2, 1), (.iload_n 3, 1), (.invokevirtual 316, 3), (.ireturn, 1)] := zdcA_ok (by decide +kernel)
theorem dX7_act_32 : decode cX7_act 32 = .ok (.aload_n 0, 1) := dX7_act_r32.1
theorem dX7_act_33 : decode cX7_act 33 = .ok (.getfield 61, 3) := dX7_act_r32.2.1
theorem dX7_act_36 : decode cX7_act 36 = .ok (.aload_n 0, 1) := dX7_act_r32.2.2.1
theorem dX7_act_37 : decode cX7_act 37 = .ok (.getfield 23, 3) := dX7_act_r32.2.2.2.1
theorem dX7_act_40 : decode cX7_act 40 = .ok (.getfield 30, 3) := dX7_act_r32.2.2.2.2.1
theorem dX7_act_43 : decode cX7_act 43 = .ok (.iload_n 1, 1) := dX7_act_r32.2.2.2.2.2.1
theorem dX7_act_44 : decode cX7_act 44 = .ok (.iload_n 2, 1) := dX7_act_r32.2.2.2.2.2.2.1
theorem dX7_act_45 : decode cX7_act 45 = .ok (.iload_n 3, 1) := dX7_act_r32.2.2.2.2.2.2.2.1
theorem dX7_act_46 : decode cX7_act 46 = .ok (.invokevirtual 316, 3) := dX7_act_r32.2.2.2.2.2.2.2.2.1
theorem dX7_act_49 : decode cX7_act 49 = .ok (.ireturn, 1) := dX7_act_r32.2.2.2.2.2.2.2.2.2.1
def wp_104 (v1 : Int32) (v2 : Int32) (v3 : Int32) (m : zf_Me) (Q : Int32 → zf_Me → Prop) : Prop := wp_65 3 v1 m (fun b1 m2 => ((b1 = false → wp_1 m2 (fun m4 => Q 0 m4)) ∧ (b1 = true → ((v2.toInt < 0 → wp_1 m2 (fun m6 => Q 0 m6)) ∧ (v2.toInt ≥ 0 → ((v2.toInt < 3 → wp_2 3 v1 v2 v3 m2 (fun x7 m8 => Q x7 m8)) ∧ (v2.toInt ≥ 3 → wp_1 m2 (fun m10 => Q 0 m10))))))))
theorem zr_104 {d : Nat} (hd : 95 ≤ d) {v1 : Int32} {v2 : Int32} {v3 : Int32} {Q : Int32 → zf_Me → Prop} {m : zf_Me} (h : wp_104 v1 v2 v3 m Q) : zf_M d 104 [.inr (.inr (1, 0)), .inl v1, .inl v2, .inl v3] m (zf_I Q) := by
  obtain ⟨e, rfl⟩ : ∃ z, d = z + 1 := ⟨d - 1, by omega⟩
  unfold wp_104 at h
  refine zf_M_of (Nat.le_of_ble_eq_true rfl) zm_104 (L := [some (.inr (.inr (1, 0))), some (.inl v1), some (.inl v2), some (.inl v3)]) rfl ?_
  refine zf_ld (pc' := 1) (v := .inr (.inr (1, 0))) dX7_act_0 rfl (fun _ _ _ => rfl) rfl rfl rfl ?_
  refine zf_gfr (pc' := 4) (b := 2) dX7_act_1 rfl rfl (by decide) rfl rfl ?_
  refine zf_gfr (pc' := 7) (b := 3) dX7_act_4 rfl rfl zf_walk2.1 zf_walk2.2.1 rfl ?_
  refine zf_ld (pc' := 8) (v := .inl v1) dX7_act_7 rfl (fun _ _ _ => rfl) rfl rfl rfl ?_
  refine zf_iv (k := 65) (pc' := 11) (r := []) dX7_act_8 rfl rfl rfl rfl zf_walk2.2.2.1.1 zf_walk2.2.2.1.2.1 rfl rfl (zr_65 (by omega) zf_walk2.2.2.1 h) (zf_kB (fun b1 m2 h => ?_))
  refine zf_ib_eq (tgt := 23) (pc' := 14) dX7_act_11 rfl rfl (fun g => ?_) (fun g => ?_)
  · replace h := h.1 g
    refine zf_ld (pc' := 24) (v := .inr (.inr (1, 0))) dX7_act_23 rfl (fun _ _ _ => rfl) rfl rfl rfl ?_
    refine zf_gfr (pc' := 27) (b := 44) dX7_act_24 rfl rfl (by decide) rfl rfl ?_
    refine zf_iv (k := 1) (pc' := 30) (r := []) dX7_act_27 rfl rfl rfl rfl (by decide) rfl rfl rfl (zr_1 (by omega) h) (zf_kO (fun m4 h => ?_))
    refine zf_ic (v := 0) (pc' := 31) dX7_act_30 rfl rfl ?_
    exact zf_ri dX7_act_31 rfl h
  · replace h := h.2 g
    refine zf_ld (pc' := 15) (v := .inl v2) dX7_act_14 rfl (fun _ _ _ => rfl) rfl rfl rfl ?_
    refine zf_if_lt (tgt := 23) (pc' := 18) dX7_act_15 rfl rfl (fun g => ?_) (fun g => ?_)
    · replace h := h.1 g
      refine zf_ld (pc' := 24) (v := .inr (.inr (1, 0))) dX7_act_23 rfl (fun _ _ _ => rfl) rfl rfl rfl ?_
      refine zf_gfr (pc' := 27) (b := 44) dX7_act_24 rfl rfl (by decide) rfl rfl ?_
      refine zf_iv (k := 1) (pc' := 30) (r := []) dX7_act_27 rfl rfl rfl rfl (by decide) rfl rfl rfl (zr_1 (by omega) h) (zf_kO (fun m6 h => ?_))
      refine zf_ic (v := 0) (pc' := 31) dX7_act_30 rfl rfl ?_
      exact zf_ri dX7_act_31 rfl h
    · replace h := h.2 g
      refine zf_ld (pc' := 19) (v := .inl v2) dX7_act_18 rfl (fun _ _ _ => rfl) rfl rfl rfl ?_
      refine zf_ic (v := 3) (pc' := 20) dX7_act_19 rfl rfl ?_
      refine zf_icmp_lt (tgt := 32) (pc' := 23) dX7_act_20 rfl rfl (fun g => ?_) (fun g => ?_)
      · replace h := h.1 g
        refine zf_ld (pc' := 33) (v := .inr (.inr (1, 0))) dX7_act_32 rfl (fun _ _ _ => rfl) rfl rfl rfl ?_
        refine zf_gfr (pc' := 36) (b := 44) dX7_act_33 rfl rfl (by decide) rfl rfl ?_
        refine zf_ld (pc' := 37) (v := .inr (.inr (1, 0))) dX7_act_36 rfl (fun _ _ _ => rfl) rfl rfl rfl ?_
        refine zf_gfr (pc' := 40) (b := 2) dX7_act_37 rfl rfl (by decide) rfl rfl ?_
        refine zf_gfr (pc' := 43) (b := 3) dX7_act_40 rfl rfl zf_walk2.1 zf_walk2.2.1 rfl ?_
        refine zf_ld (pc' := 44) (v := .inl v1) dX7_act_43 rfl (fun _ _ _ => rfl) rfl rfl rfl ?_
        refine zf_ld (pc' := 45) (v := .inl v2) dX7_act_44 rfl (fun _ _ _ => rfl) rfl rfl rfl ?_
        refine zf_ld (pc' := 46) (v := .inl v3) dX7_act_45 rfl (fun _ _ _ => rfl) rfl rfl rfl ?_
        refine zf_iv (k := 2) (pc' := 49) (r := []) dX7_act_46 rfl rfl rfl rfl (by decide) rfl rfl rfl (zr_2 (by omega) zf_walk2.2.2.1 h) (zf_kI (fun x7 m8 h => ?_))
        exact zf_ri dX7_act_49 rfl h
      · replace h := h.2 g
        refine zf_ld (pc' := 24) (v := .inr (.inr (1, 0))) dX7_act_23 rfl (fun _ _ _ => rfl) rfl rfl rfl ?_
        refine zf_gfr (pc' := 27) (b := 44) dX7_act_24 rfl rfl (by decide) rfl rfl ?_
        refine zf_iv (k := 1) (pc' := 30) (r := []) dX7_act_27 rfl rfl rfl rfl (by decide) rfl rfl rfl (zr_1 (by omega) h) (zf_kO (fun m10 h => ?_))
        refine zf_ic (v := 0) (pc' := 31) dX7_act_30 rfl rfl ?_
        exact zf_ri dX7_act_31 rfl h
def zt_105 : zx_MT := (7, yX7_trace, cX7_trace, 2, (some FieldType.int), 1, 0)
theorem zm_105 : zx_m 105 = zt_105 := rfl
theorem dX7_trace_r0 : zdcP cX7_trace 0 [(.aload_n 0, 1), (.getfield 61, 3), (.iload_n 1, 1), (.invokevirtual 320, 3), (.ireturn, 1)] := zdcA_ok (by decide +kernel)
theorem dX7_trace_0 : decode cX7_trace 0 = .ok (.aload_n 0, 1) := dX7_trace_r0.1
theorem dX7_trace_1 : decode cX7_trace 1 = .ok (.getfield 61, 3) := dX7_trace_r0.2.1
theorem dX7_trace_4 : decode cX7_trace 4 = .ok (.iload_n 1, 1) := dX7_trace_r0.2.2.1
theorem dX7_trace_5 : decode cX7_trace 5 = .ok (.invokevirtual 320, 3) := dX7_trace_r0.2.2.2.1
theorem dX7_trace_8 : decode cX7_trace 8 = .ok (.ireturn, 1) := dX7_trace_r0.2.2.2.2.1
def wp_105 (v1 : Int32) (m : zf_Me) (Q : Int32 → zf_Me → Prop) : Prop := wp_3 v1 m (fun x1 m2 => Q x1 m2)
theorem zr_105 {d : Nat} (hd : 1 ≤ d) {v1 : Int32} {Q : Int32 → zf_Me → Prop} {m : zf_Me} (h : wp_105 v1 m Q) : zf_M d 105 [.inr (.inr (1, 0)), .inl v1] m (zf_I Q) := by
  obtain ⟨e, rfl⟩ : ∃ z, d = z + 1 := ⟨d - 1, by omega⟩
  unfold wp_105 at h
  refine zf_M_of (Nat.le_of_ble_eq_true rfl) zm_105 (L := [some (.inr (.inr (1, 0))), some (.inl v1)]) rfl ?_
  refine zf_ld (pc' := 1) (v := .inr (.inr (1, 0))) dX7_trace_0 rfl (fun _ _ _ => rfl) rfl rfl rfl ?_
  refine zf_gfr (pc' := 4) (b := 44) dX7_trace_1 rfl rfl (by decide) rfl rfl ?_
  refine zf_ld (pc' := 5) (v := .inl v1) dX7_trace_4 rfl (fun _ _ _ => rfl) rfl rfl rfl ?_
  refine zf_iv (k := 3) (pc' := 8) (r := []) dX7_trace_5 rfl rfl rfl rfl (by decide) rfl rfl rfl (zr_3 (by omega) h) (zf_kI (fun x1 m2 h => ?_))
  exact zf_ri dX7_trace_8 rfl h
def zt_106 : zx_MT := (7, yX7_image, cX7_image, 1, (some FieldType.int), 0, 0)
theorem zm_106 : zx_m 106 = zt_106 := rfl
theorem dX7_image_r0 : zdcP cX7_image 0 [(.aload_n 0, 1), (.getfield 27, 3), (.getfield 30, 3), (.aload_n 0, 1), (.getfield 23, 3), (.getfield 30, 3), (.invokevirtual 199, 3), (.aload_n 0, 1), (.getfield 27, 3), (.aload_n 0, 1), (.getfield 23, 3), (.invokevirtual 202, 3), (.aload_n 0, 1), (.iconst 1, 1), (.putfield 69, 3), (.aload_n 0, 1)] := zdcA_ok (by decide +kernel)
theorem dX7_image_0 : decode cX7_image 0 = .ok (.aload_n 0, 1) := dX7_image_r0.1
theorem dX7_image_1 : decode cX7_image 1 = .ok (.getfield 27, 3) := dX7_image_r0.2.1
theorem dX7_image_4 : decode cX7_image 4 = .ok (.getfield 30, 3) := dX7_image_r0.2.2.1
theorem dX7_image_7 : decode cX7_image 7 = .ok (.aload_n 0, 1) := dX7_image_r0.2.2.2.1
theorem dX7_image_8 : decode cX7_image 8 = .ok (.getfield 23, 3) := dX7_image_r0.2.2.2.2.1
theorem dX7_image_11 : decode cX7_image 11 = .ok (.getfield 30, 3) := dX7_image_r0.2.2.2.2.2.1
theorem dX7_image_14 : decode cX7_image 14 = .ok (.invokevirtual 199, 3) := dX7_image_r0.2.2.2.2.2.2.1
theorem dX7_image_17 : decode cX7_image 17 = .ok (.aload_n 0, 1) := dX7_image_r0.2.2.2.2.2.2.2.1
theorem dX7_image_18 : decode cX7_image 18 = .ok (.getfield 27, 3) := dX7_image_r0.2.2.2.2.2.2.2.2.1
theorem dX7_image_21 : decode cX7_image 21 = .ok (.aload_n 0, 1) := dX7_image_r0.2.2.2.2.2.2.2.2.2.1
theorem dX7_image_22 : decode cX7_image 22 = .ok (.getfield 23, 3) := dX7_image_r0.2.2.2.2.2.2.2.2.2.2.1
theorem dX7_image_25 : decode cX7_image 25 = .ok (.invokevirtual 202, 3) := dX7_image_r0.2.2.2.2.2.2.2.2.2.2.2.1
theorem dX7_image_28 : decode cX7_image 28 = .ok (.aload_n 0, 1) := dX7_image_r0.2.2.2.2.2.2.2.2.2.2.2.2.1
theorem dX7_image_29 : decode cX7_image 29 = .ok (.iconst 1, 1) := dX7_image_r0.2.2.2.2.2.2.2.2.2.2.2.2.2.1
theorem dX7_image_30 : decode cX7_image 30 = .ok (.putfield 69, 3) := dX7_image_r0.2.2.2.2.2.2.2.2.2.2.2.2.2.2.1
theorem dX7_image_33 : decode cX7_image 33 = .ok (.aload_n 0, 1) := dX7_image_r0.2.2.2.2.2.2.2.2.2.2.2.2.2.2.2.1
theorem dX7_image_r34 : zdcP cX7_image 34 [(.getfield 23, 3), (.getfield 30, 3), (.getfield 153, 3), (.ireturn, 1)] := zdcA_ok (by decide +kernel)
theorem dX7_image_34 : decode cX7_image 34 = .ok (.getfield 23, 3) := dX7_image_r34.1
theorem dX7_image_37 : decode cX7_image 37 = .ok (.getfield 30, 3) := dX7_image_r34.2.1
theorem dX7_image_40 : decode cX7_image 40 = .ok (.getfield 153, 3) := dX7_image_r34.2.2.1
theorem dX7_image_43 : decode cX7_image 43 = .ok (.ireturn, 1) := dX7_image_r34.2.2.2.1
def wp_106 (m : zf_Me) (Q : Int32 → zf_Me → Prop) : Prop := wp_63 10 3 m (fun m2 => wp_43 9 10 15 2 3 8 m2 (fun m4 => (∀ m5, m5 = zf_u m4 0 9 1 → Q (m5.1 3 5) m5)))
theorem zr_106 {d : Nat} (hd : 1 ≤ d) {Q : Int32 → zf_Me → Prop} {m : zf_Me} (h : wp_106 m Q) : zf_M d 106 [.inr (.inr (1, 0))] m (zf_I Q) := by
  obtain ⟨e, rfl⟩ : ∃ z, d = z + 1 := ⟨d - 1, by omega⟩
  unfold wp_106 at h
  refine zf_M_of (Nat.le_of_ble_eq_true rfl) zm_106 (L := [some (.inr (.inr (1, 0)))]) rfl ?_
  refine zf_ld (pc' := 1) (v := .inr (.inr (1, 0))) dX7_image_0 rfl (fun _ _ _ => rfl) rfl rfl rfl ?_
  refine zf_gfr (pc' := 4) (b := 9) dX7_image_1 rfl rfl (by decide) rfl rfl ?_
  refine zf_gfr (pc' := 7) (b := 10) dX7_image_4 rfl rfl zf_walk9.1 zf_walk9.2.1 rfl ?_
  refine zf_ld (pc' := 8) (v := .inr (.inr (1, 0))) dX7_image_7 rfl (fun _ _ _ => rfl) rfl rfl rfl ?_
  refine zf_gfr (pc' := 11) (b := 2) dX7_image_8 rfl rfl (by decide) rfl rfl ?_
  refine zf_gfr (pc' := 14) (b := 3) dX7_image_11 rfl rfl zf_walk2.1 zf_walk2.2.1 rfl ?_
  refine zf_iv (k := 63) (pc' := 17) (r := []) dX7_image_14 rfl rfl rfl rfl zf_walk9.2.2.1.1 zf_walk9.2.2.1.2.1 rfl rfl (zr_63 (by omega) zf_walk9.2.2.1 zf_walk2.2.2.1 h) (zf_kO (fun m2 h => ?_))
  refine zf_ld (pc' := 18) (v := .inr (.inr (1, 0))) dX7_image_17 rfl (fun _ _ _ => rfl) rfl rfl rfl ?_
  refine zf_gfr (pc' := 21) (b := 9) dX7_image_18 rfl rfl (by decide) rfl rfl ?_
  refine zf_ld (pc' := 22) (v := .inr (.inr (1, 0))) dX7_image_21 rfl (fun _ _ _ => rfl) rfl rfl rfl ?_
  refine zf_gfr (pc' := 25) (b := 2) dX7_image_22 rfl rfl (by decide) rfl rfl ?_
  refine zf_iv (k := 43) (pc' := 28) (r := []) dX7_image_25 rfl rfl rfl rfl zf_walk9.1 zf_walk9.2.1 rfl rfl (zr_43 (by omega) zf_walk9 zf_walk2 h) (zf_kO (fun m4 h => ?_))
  refine zf_ld (pc' := 29) (v := .inr (.inr (1, 0))) dX7_image_28 rfl (fun _ _ _ => rfl) rfl rfl rfl ?_
  refine zf_ic (v := 1) (pc' := 30) dX7_image_29 rfl rfl ?_
  refine zf_pf (pc' := 33) dX7_image_30 rfl rfl (by decide) rfl rfl rfl (fun m5 e6 => ?_)
  replace h := h m5 e6
  refine zf_ld (pc' := 34) (v := .inr (.inr (1, 0))) dX7_image_33 rfl (fun _ _ _ => rfl) rfl rfl rfl ?_
  refine zf_gfr (pc' := 37) (b := 2) dX7_image_34 rfl rfl (by decide) rfl rfl ?_
  refine zf_gfr (pc' := 40) (b := 3) dX7_image_37 rfl rfl zf_walk2.1 zf_walk2.2.1 rfl ?_
  refine zf_gfi (pc' := 43) dX7_image_40 rfl rfl zf_walk2.2.2.1.1 zf_walk2.2.2.1.2.1 rfl ?_
  exact zf_ri dX7_image_43 rfl h
def zt_107 : zx_MT := (7, yX7_restore, cX7_restore, 5, (some FieldType.int), 0, 0)
theorem zm_107 : zx_m 107 = zt_107 := rfl
theorem dX7_restore_r0 : zdcP cX7_restore 0 [(.aload_n 0, 1), (.getfield 69, 3), (.ifCond .ne 10, 3), (.aload_n 0, 1), (.bipush 6, 2), (.invokevirtual 82, 3), (.ireturn, 1), (.aload_n 0, 1), (.getfield 23, 3), (.getfield 30, 3), (.aload_n 0, 1), (.getfield 27, 3), (.getfield 30, 3), (.invokevirtual 199, 3), (.aload_n 0, 1), (.getfield 23, 3)] := zdcA_ok (by decide +kernel)
theorem dX7_restore_0 : decode cX7_restore 0 = .ok (.aload_n 0, 1) := dX7_restore_r0.1
theorem dX7_restore_1 : decode cX7_restore 1 = .ok (.getfield 69, 3) := dX7_restore_r0.2.1
theorem dX7_restore_4 : decode cX7_restore 4 = .ok (.ifCond .ne 10, 3) := dX7_restore_r0.2.2.1
theorem dX7_restore_7 : decode cX7_restore 7 = .ok (.aload_n 0, 1) := dX7_restore_r0.2.2.2.1
theorem dX7_restore_8 : decode cX7_restore 8 = .ok (.bipush 6, 2) := dX7_restore_r0.2.2.2.2.1
theorem dX7_restore_10 : decode cX7_restore 10 = .ok (.invokevirtual 82, 3) := dX7_restore_r0.2.2.2.2.2.1
theorem dX7_restore_13 : decode cX7_restore 13 = .ok (.ireturn, 1) := dX7_restore_r0.2.2.2.2.2.2.1
theorem dX7_restore_14 : decode cX7_restore 14 = .ok (.aload_n 0, 1) := dX7_restore_r0.2.2.2.2.2.2.2.1
theorem dX7_restore_15 : decode cX7_restore 15 = .ok (.getfield 23, 3) := dX7_restore_r0.2.2.2.2.2.2.2.2.1
theorem dX7_restore_18 : decode cX7_restore 18 = .ok (.getfield 30, 3) := dX7_restore_r0.2.2.2.2.2.2.2.2.2.1
theorem dX7_restore_21 : decode cX7_restore 21 = .ok (.aload_n 0, 1) := dX7_restore_r0.2.2.2.2.2.2.2.2.2.2.1
theorem dX7_restore_22 : decode cX7_restore 22 = .ok (.getfield 27, 3) := dX7_restore_r0.2.2.2.2.2.2.2.2.2.2.2.1
theorem dX7_restore_25 : decode cX7_restore 25 = .ok (.getfield 30, 3) := dX7_restore_r0.2.2.2.2.2.2.2.2.2.2.2.2.1
theorem dX7_restore_28 : decode cX7_restore 28 = .ok (.invokevirtual 199, 3) := dX7_restore_r0.2.2.2.2.2.2.2.2.2.2.2.2.2.1
theorem dX7_restore_31 : decode cX7_restore 31 = .ok (.aload_n 0, 1) := dX7_restore_r0.2.2.2.2.2.2.2.2.2.2.2.2.2.2.1
theorem dX7_restore_32 : decode cX7_restore 32 = .ok (.getfield 23, 3) := dX7_restore_r0.2.2.2.2.2.2.2.2.2.2.2.2.2.2.2.1
theorem dX7_restore_r35 : zdcP cX7_restore 35 [(.aload_n 0, 1), (.getfield 27, 3), (.invokevirtual 202, 3), (.aload_n 0, 1), (.getfield 11, 3), (.astore_n 1, 1), (.aload_n 1, 1), (.arraylength, 1), (.istore_n 2, 1), (.iconst 0, 1), (.istore_n 3, 1), (.iload_n 3, 1), (.iload_n 2, 1), (.if_icmp .ge 46, 3), (.aload_n 1, 1), (.iload_n 3, 1)] := zdcA_ok (by decide +kernel)
theorem dX7_restore_35 : decode cX7_restore 35 = .ok (.aload_n 0, 1) := dX7_restore_r35.1
theorem dX7_restore_36 : decode cX7_restore 36 = .ok (.getfield 27, 3) := dX7_restore_r35.2.1
theorem dX7_restore_39 : decode cX7_restore 39 = .ok (.invokevirtual 202, 3) := dX7_restore_r35.2.2.1
theorem dX7_restore_42 : decode cX7_restore 42 = .ok (.aload_n 0, 1) := dX7_restore_r35.2.2.2.1
theorem dX7_restore_43 : decode cX7_restore 43 = .ok (.getfield 11, 3) := dX7_restore_r35.2.2.2.2.1
theorem dX7_restore_46 : decode cX7_restore 46 = .ok (.astore_n 1, 1) := dX7_restore_r35.2.2.2.2.2.1
theorem dX7_restore_47 : decode cX7_restore 47 = .ok (.aload_n 1, 1) := dX7_restore_r35.2.2.2.2.2.2.1
theorem dX7_restore_48 : decode cX7_restore 48 = .ok (.arraylength, 1) := dX7_restore_r35.2.2.2.2.2.2.2.1
theorem dX7_restore_49 : decode cX7_restore 49 = .ok (.istore_n 2, 1) := dX7_restore_r35.2.2.2.2.2.2.2.2.1
theorem dX7_restore_50 : decode cX7_restore 50 = .ok (.iconst 0, 1) := dX7_restore_r35.2.2.2.2.2.2.2.2.2.1
theorem dX7_restore_51 : decode cX7_restore 51 = .ok (.istore_n 3, 1) := dX7_restore_r35.2.2.2.2.2.2.2.2.2.2.1
theorem dX7_restore_52 : decode cX7_restore 52 = .ok (.iload_n 3, 1) := dX7_restore_r35.2.2.2.2.2.2.2.2.2.2.2.1
theorem dX7_restore_53 : decode cX7_restore 53 = .ok (.iload_n 2, 1) := dX7_restore_r35.2.2.2.2.2.2.2.2.2.2.2.2.1
theorem dX7_restore_54 : decode cX7_restore 54 = .ok (.if_icmp .ge 46, 3) := dX7_restore_r35.2.2.2.2.2.2.2.2.2.2.2.2.2.1
theorem dX7_restore_57 : decode cX7_restore 57 = .ok (.aload_n 1, 1) := dX7_restore_r35.2.2.2.2.2.2.2.2.2.2.2.2.2.2.1
theorem dX7_restore_58 : decode cX7_restore 58 = .ok (.iload_n 3, 1) := dX7_restore_r35.2.2.2.2.2.2.2.2.2.2.2.2.2.2.2.1
theorem dX7_restore_r59 : zdcP cX7_restore 59 [(.aaload, 1), (.astore 4, 2), (.aload 4, 2), (.invokevirtual 323, 3), (.ifCond .ne 27, 3), (.aload_n 0, 1), (.getfield 23, 3), (.getfield 30, 3), (.aload 4, 2), (.getfield 121, 3), (.invokevirtual 118, 3), (.ifCond .ne 9, 3), (.aload 4, 2), (.iconst (-1), 1), (.putfield 121, 3), (.iinc 3 1, 3)] := zdcA_ok (by decide +kernel)
theorem dX7_restore_59 : decode cX7_restore 59 = .ok (.aaload, 1) := dX7_restore_r59.1
theorem dX7_restore_60 : decode cX7_restore 60 = .ok (.astore 4, 2) := dX7_restore_r59.2.1
theorem dX7_restore_62 : decode cX7_restore 62 = .ok (.aload 4, 2) := dX7_restore_r59.2.2.1
theorem dX7_restore_64 : decode cX7_restore 64 = .ok (.invokevirtual 323, 3) := dX7_restore_r59.2.2.2.1
theorem dX7_restore_67 : decode cX7_restore 67 = .ok (.ifCond .ne 27, 3) := dX7_restore_r59.2.2.2.2.1
theorem dX7_restore_70 : decode cX7_restore 70 = .ok (.aload_n 0, 1) := dX7_restore_r59.2.2.2.2.2.1
theorem dX7_restore_71 : decode cX7_restore 71 = .ok (.getfield 23, 3) := dX7_restore_r59.2.2.2.2.2.2.1
theorem dX7_restore_74 : decode cX7_restore 74 = .ok (.getfield 30, 3) := dX7_restore_r59.2.2.2.2.2.2.2.1
theorem dX7_restore_77 : decode cX7_restore 77 = .ok (.aload 4, 2) := dX7_restore_r59.2.2.2.2.2.2.2.2.1
theorem dX7_restore_79 : decode cX7_restore 79 = .ok (.getfield 121, 3) := dX7_restore_r59.2.2.2.2.2.2.2.2.2.1
theorem dX7_restore_82 : decode cX7_restore 82 = .ok (.invokevirtual 118, 3) := dX7_restore_r59.2.2.2.2.2.2.2.2.2.2.1
theorem dX7_restore_85 : decode cX7_restore 85 = .ok (.ifCond .ne 9, 3) := dX7_restore_r59.2.2.2.2.2.2.2.2.2.2.2.1
theorem dX7_restore_88 : decode cX7_restore 88 = .ok (.aload 4, 2) := dX7_restore_r59.2.2.2.2.2.2.2.2.2.2.2.2.1
theorem dX7_restore_90 : decode cX7_restore 90 = .ok (.iconst (-1), 1) := dX7_restore_r59.2.2.2.2.2.2.2.2.2.2.2.2.2.1
theorem dX7_restore_91 : decode cX7_restore 91 = .ok (.putfield 121, 3) := dX7_restore_r59.2.2.2.2.2.2.2.2.2.2.2.2.2.2.1
theorem dX7_restore_94 : decode cX7_restore 94 = .ok (.iinc 3 1, 3) := dX7_restore_r59.2.2.2.2.2.2.2.2.2.2.2.2.2.2.2.1
theorem dX7_restore_r97 : zdcP cX7_restore 97 [(.goto (-45), 3), (.aload_n 0, 1), (.getfield 23, 3), (.getfield 30, 3), (.getfield 153, 3), (.ireturn, 1)] := zdcA_ok (by decide +kernel)
theorem dX7_restore_97 : decode cX7_restore 97 = .ok (.goto (-45), 3) := dX7_restore_r97.1
theorem dX7_restore_100 : decode cX7_restore 100 = .ok (.aload_n 0, 1) := dX7_restore_r97.2.1
theorem dX7_restore_101 : decode cX7_restore 101 = .ok (.getfield 23, 3) := dX7_restore_r97.2.2.1
theorem dX7_restore_104 : decode cX7_restore 104 = .ok (.getfield 30, 3) := dX7_restore_r97.2.2.2.1
theorem dX7_restore_107 : decode cX7_restore 107 = .ok (.getfield 153, 3) := dX7_restore_r97.2.2.2.2.1
theorem dX7_restore_110 : decode cX7_restore 110 = .ok (.ireturn, 1) := dX7_restore_r97.2.2.2.2.2.1
def wq_107_52 (Q : Int32 → zf_Me → Prop) : Nat → Int32 → Int32 → zf_Me → Prop
  | 0, _, _, _ => False
  | n + 1, v2, v3, m => ((v3.toInt ≥ v2.toInt → Q (m.1 3 5) m) ∧ (v3.toInt < v2.toInt → ((0 ≤ (Int32.toInt v3) ∧ (Int32.toInt v3) < 8) ∧ wp_19 (47 + 2 * (Int32.toInt v3).toNat) (48 + 2 * (Int32.toInt v3).toNat) m (fun b7 m8 => ((b7 = true → wq_107_52 Q n v2 (v3 + 1) m8) ∧ (b7 = false → wp_65 3 (m8.1 (47 + 2 * (Int32.toInt v3).toNat) 1) m8 (fun b9 m10 => ((b9 = true → wq_107_52 Q n v2 (v3 + 1) m10) ∧ (b9 = false → (∀ m11, m11 = zf_u m10 (47 + 2 * (Int32.toInt v3).toNat) 1 (-1) → wq_107_52 Q n v2 (v3 + 1) m11))))))))))
theorem zq_107_52 {d : Nat} (hd : 1 ≤ d) {Q : Int32 → zf_Me → Prop} : ∀ (n : Nat) (v2 : Int32) (v3 : Int32) (m : zf_Me), wq_107_52 Q n v2 v3 m → zf_W none 0 0 d zt_107 52 [some (.inr (.inr (1, 0))), some (.inr (.inr (1, 1))), some (.inl v2), some (.inl v3), none] [] m (zf_I Q) := by
  obtain ⟨e, rfl⟩ : ∃ z, d = z + 1 := ⟨d - 1, by omega⟩
  intro n
  induction n with
  | zero =>
    intro v2 v3 m h
    exact h.elim
  | succ n ih =>
    intro v2 v3 m h
    unfold wq_107_52 at h
    refine zf_ld (pc' := 53) (v := .inl v3) dX7_restore_52 rfl (fun _ _ _ => rfl) rfl rfl rfl ?_
    refine zf_ld (pc' := 54) (v := .inl v2) dX7_restore_53 rfl (fun _ _ _ => rfl) rfl rfl rfl ?_
    refine zf_icmp_ge (tgt := 100) (pc' := 57) dX7_restore_54 rfl rfl (fun g => ?_) (fun g => ?_)
    · replace h := h.1 g
      refine zf_ld (pc' := 101) (v := .inr (.inr (1, 0))) dX7_restore_100 rfl (fun _ _ _ => rfl) rfl rfl rfl ?_
      refine zf_gfr (pc' := 104) (b := 2) dX7_restore_101 rfl rfl (by decide) rfl rfl ?_
      refine zf_gfr (pc' := 107) (b := 3) dX7_restore_104 rfl rfl zf_walk2.1 zf_walk2.2.1 rfl ?_
      refine zf_gfi (pc' := 110) dX7_restore_107 rfl rfl zf_walk2.2.2.1.1 zf_walk2.2.2.1.2.1 rfl ?_
      exact zf_ri dX7_restore_110 rfl h
    · replace h := h.2 g
      refine zf_ld (pc' := 58) (v := .inr (.inr (1, 1))) dX7_restore_57 rfl (fun _ _ _ => rfl) rfl rfl rfl ?_
      refine zf_ld (pc' := 59) (v := .inl v3) dX7_restore_58 rfl (fun _ _ _ => rfl) rfl rfl rfl ?_
      refine zf_aal (b := 47) (n := 8) (pc' := 60) dX7_restore_59 rfl (by decide) rfl (by decide) rfl h.1 zf_row1 ?_
      have hb5 := h.1
      replace h := h.2
      have hx6 : zf_shelf (47 + 2 * (Int32.toInt v3).toNat) (48 + 2 * (Int32.toInt v3).toNat) := zf_shelves (by omega)
      refine zf_st (pc' := 62) (L2 := [some (.inr (.inr (1, 0))), some (.inr (.inr (1, 1))), some (.inl v2), some (.inl v3), some (.inr (.inr (1, (47 + 2 * (Int32.toInt v3).toNat))))]) dX7_restore_60 rfl (fun _ _ _ => rfl) rfl rfl rfl rfl rfl rfl ?_
      refine zf_ld (pc' := 64) (v := .inr (.inr (1, (47 + 2 * (Int32.toInt v3).toNat)))) dX7_restore_62 rfl (fun _ _ _ => rfl) rfl rfl rfl ?_
      refine zf_iv (k := 19) (pc' := 67) (r := []) dX7_restore_64 rfl rfl rfl rfl hx6.1 hx6.2.1 rfl rfl (zr_19 (by omega) hx6 h) (zf_kB (fun b7 m8 h => ?_))
      refine zf_ib_ne (tgt := 94) (pc' := 70) dX7_restore_67 rfl rfl (fun g => ?_) (fun g => ?_)
      · replace h := h.1 g
        refine zf_ii (y := (v3 + 1)) (L2 := [some (.inr (.inr (1, 0))), some (.inr (.inr (1, 1))), some (.inl v2), some (.inl (v3 + 1)), some (.inr (.inr (1, (47 + 2 * (Int32.toInt v3).toNat))))]) (pc' := 97) dX7_restore_94 rfl rfl rfl rfl rfl ?_
        refine zf_goto (tgt := 52) dX7_restore_97 rfl ?_
        exact zf_lo (ih _ _ _ h) ⟨rfl, rfl, rfl, rfl, trivial⟩
      · replace h := h.2 g
        refine zf_ld (pc' := 71) (v := .inr (.inr (1, 0))) dX7_restore_70 rfl (fun _ _ _ => rfl) rfl rfl rfl ?_
        refine zf_gfr (pc' := 74) (b := 2) dX7_restore_71 rfl rfl (by decide) rfl rfl ?_
        refine zf_gfr (pc' := 77) (b := 3) dX7_restore_74 rfl rfl zf_walk2.1 zf_walk2.2.1 rfl ?_
        refine zf_ld (pc' := 79) (v := .inr (.inr (1, (47 + 2 * (Int32.toInt v3).toNat)))) dX7_restore_77 rfl (fun _ _ _ => rfl) rfl rfl rfl ?_
        refine zf_gfi (pc' := 82) dX7_restore_79 rfl rfl hx6.1 hx6.2.1 rfl ?_
        refine zf_iv (k := 65) (pc' := 85) (r := []) dX7_restore_82 rfl rfl rfl rfl zf_walk2.2.2.1.1 zf_walk2.2.2.1.2.1 rfl rfl (zr_65 (by omega) zf_walk2.2.2.1 h) (zf_kB (fun b9 m10 h => ?_))
        refine zf_ib_ne (tgt := 94) (pc' := 88) dX7_restore_85 rfl rfl (fun g => ?_) (fun g => ?_)
        · replace h := h.1 g
          refine zf_ii (y := (v3 + 1)) (L2 := [some (.inr (.inr (1, 0))), some (.inr (.inr (1, 1))), some (.inl v2), some (.inl (v3 + 1)), some (.inr (.inr (1, (47 + 2 * (Int32.toInt v3).toNat))))]) (pc' := 97) dX7_restore_94 rfl rfl rfl rfl rfl ?_
          refine zf_goto (tgt := 52) dX7_restore_97 rfl ?_
          exact zf_lo (ih _ _ _ h) ⟨rfl, rfl, rfl, rfl, trivial⟩
        · replace h := h.2 g
          refine zf_ld (pc' := 90) (v := .inr (.inr (1, (47 + 2 * (Int32.toInt v3).toNat)))) dX7_restore_88 rfl (fun _ _ _ => rfl) rfl rfl rfl ?_
          refine zf_ic (v := (-1)) (pc' := 91) dX7_restore_90 rfl rfl ?_
          refine zf_pf (pc' := 94) dX7_restore_91 rfl rfl hx6.1 hx6.2.1 rfl rfl (fun m11 e12 => ?_)
          replace h := h m11 e12
          refine zf_ii (y := (v3 + 1)) (L2 := [some (.inr (.inr (1, 0))), some (.inr (.inr (1, 1))), some (.inl v2), some (.inl (v3 + 1)), some (.inr (.inr (1, (47 + 2 * (Int32.toInt v3).toNat))))]) (pc' := 97) dX7_restore_94 rfl rfl rfl rfl rfl ?_
          refine zf_goto (tgt := 52) dX7_restore_97 rfl ?_
          exact zf_lo (ih _ _ _ h) ⟨rfl, rfl, rfl, rfl, trivial⟩
def wp_107 (m : zf_Me) (Q : Int32 → zf_Me → Prop) : Prop := ((¬ ((m.1 0 9)).toInt = 0 → wp_63 3 10 m (fun m2 => wp_43 2 3 8 9 10 15 m2 (fun m4 => (∃ n52, wq_107_52 Q n52 8 0 m4)))) ∧ (((m.1 0 9)).toInt = 0 → wp_109 6 m (fun x13 m14 => Q x13 m14)))
theorem zr_107 {d : Nat} (hd : 1 ≤ d) {Q : Int32 → zf_Me → Prop} {m : zf_Me} (h : wp_107 m Q) : zf_M d 107 [.inr (.inr (1, 0))] m (zf_I Q) := by
  obtain ⟨e, rfl⟩ : ∃ z, d = z + 1 := ⟨d - 1, by omega⟩
  unfold wp_107 at h
  refine zf_M_of (Nat.le_of_ble_eq_true rfl) zm_107 (L := [some (.inr (.inr (1, 0))), none, none, none, none]) rfl ?_
  refine zf_ld (pc' := 1) (v := .inr (.inr (1, 0))) dX7_restore_0 rfl (fun _ _ _ => rfl) rfl rfl rfl ?_
  refine zf_gfi (pc' := 4) dX7_restore_1 rfl rfl (by decide) rfl rfl ?_
  refine zf_if_ne (tgt := 14) (pc' := 7) dX7_restore_4 rfl rfl (fun g => ?_) (fun g => ?_)
  · replace h := h.1 g
    refine zf_ld (pc' := 15) (v := .inr (.inr (1, 0))) dX7_restore_14 rfl (fun _ _ _ => rfl) rfl rfl rfl ?_
    refine zf_gfr (pc' := 18) (b := 2) dX7_restore_15 rfl rfl (by decide) rfl rfl ?_
    refine zf_gfr (pc' := 21) (b := 3) dX7_restore_18 rfl rfl zf_walk2.1 zf_walk2.2.1 rfl ?_
    refine zf_ld (pc' := 22) (v := .inr (.inr (1, 0))) dX7_restore_21 rfl (fun _ _ _ => rfl) rfl rfl rfl ?_
    refine zf_gfr (pc' := 25) (b := 9) dX7_restore_22 rfl rfl (by decide) rfl rfl ?_
    refine zf_gfr (pc' := 28) (b := 10) dX7_restore_25 rfl rfl zf_walk9.1 zf_walk9.2.1 rfl ?_
    refine zf_iv (k := 63) (pc' := 31) (r := []) dX7_restore_28 rfl rfl rfl rfl zf_walk2.2.2.1.1 zf_walk2.2.2.1.2.1 rfl rfl (zr_63 (by omega) zf_walk2.2.2.1 zf_walk9.2.2.1 h) (zf_kO (fun m2 h => ?_))
    refine zf_ld (pc' := 32) (v := .inr (.inr (1, 0))) dX7_restore_31 rfl (fun _ _ _ => rfl) rfl rfl rfl ?_
    refine zf_gfr (pc' := 35) (b := 2) dX7_restore_32 rfl rfl (by decide) rfl rfl ?_
    refine zf_ld (pc' := 36) (v := .inr (.inr (1, 0))) dX7_restore_35 rfl (fun _ _ _ => rfl) rfl rfl rfl ?_
    refine zf_gfr (pc' := 39) (b := 9) dX7_restore_36 rfl rfl (by decide) rfl rfl ?_
    refine zf_iv (k := 43) (pc' := 42) (r := []) dX7_restore_39 rfl rfl rfl rfl zf_walk2.1 zf_walk2.2.1 rfl rfl (zr_43 (by omega) zf_walk2 zf_walk9 h) (zf_kO (fun m4 h => ?_))
    refine zf_ld (pc' := 43) (v := .inr (.inr (1, 0))) dX7_restore_42 rfl (fun _ _ _ => rfl) rfl rfl rfl ?_
    refine zf_gfr (pc' := 46) (b := 1) dX7_restore_43 rfl rfl (by decide) rfl rfl ?_
    refine zf_st (pc' := 47) (L2 := [some (.inr (.inr (1, 0))), some (.inr (.inr (1, 1))), none, none, none]) dX7_restore_46 rfl (fun _ _ _ => rfl) rfl rfl rfl rfl rfl rfl ?_
    refine zf_ld (pc' := 48) (v := .inr (.inr (1, 1))) dX7_restore_47 rfl (fun _ _ _ => rfl) rfl rfl rfl ?_
    refine zf_ar (n := 0) (v := 8) (pc' := 49) dX7_restore_48 rfl (by decide) rfl (by decide) rfl ?_
    refine zf_st (pc' := 50) (L2 := [some (.inr (.inr (1, 0))), some (.inr (.inr (1, 1))), some (.inl 8), none, none]) dX7_restore_49 rfl (fun _ _ _ => rfl) rfl rfl rfl rfl rfl rfl ?_
    refine zf_ic (v := 0) (pc' := 51) dX7_restore_50 rfl rfl ?_
    refine zf_st (pc' := 52) (L2 := [some (.inr (.inr (1, 0))), some (.inr (.inr (1, 1))), some (.inl 8), some (.inl 0), none]) dX7_restore_51 rfl (fun _ _ _ => rfl) rfl rfl rfl rfl rfl rfl ?_
    obtain ⟨n52, h⟩ := h
    exact zf_lo (zq_107_52 (by omega) n52 _ _ _ h) ⟨rfl, rfl, rfl, rfl, trivial⟩
  · replace h := h.2 g
    refine zf_ld (pc' := 8) (v := .inr (.inr (1, 0))) dX7_restore_7 rfl (fun _ _ _ => rfl) rfl rfl rfl ?_
    refine zf_bi (v := 6) (pc' := 10) dX7_restore_8 rfl rfl ?_
    refine zf_iv (k := 109) (pc' := 13) (r := []) dX7_restore_10 rfl rfl rfl rfl (by decide) rfl rfl rfl (zr_109 (by omega) h) (zf_kI (fun x13 m14 h => ?_))
    exact zf_ri dX7_restore_13 rfl h
def zt_108 : zx_MT := (7, yX7_status, cX7_status, 2, (some FieldType.int), 1, 0)
theorem zm_108 : zx_m 108 = zt_108 := rfl
theorem dX7_status_r0 : zdcP cX7_status 0 [(.iload_n 1, 1), (.bipush 6, 2), (.if_icmp .lt 21, 3), (.iload_n 1, 1), (.bipush 11, 2), (.if_icmp .ge 15, 3), (.aload_n 0, 1), (.getfield 23, 3), (.iload_n 1, 1), (.bipush 6, 2), (.isub, 1), (.invokevirtual 183, 3), (.ireturn, 1), (.iload_n 1, 1), (.bipush 11, 2), (.if_icmp .lt 19, 3)] := zdcA_ok (by decide +kernel)
theorem dX7_status_0 : decode cX7_status 0 = .ok (.iload_n 1, 1) := dX7_status_r0.1
theorem dX7_status_1 : decode cX7_status 1 = .ok (.bipush 6, 2) := dX7_status_r0.2.1
theorem dX7_status_3 : decode cX7_status 3 = .ok (.if_icmp .lt 21, 3) := dX7_status_r0.2.2.1
theorem dX7_status_6 : decode cX7_status 6 = .ok (.iload_n 1, 1) := dX7_status_r0.2.2.2.1
theorem dX7_status_7 : decode cX7_status 7 = .ok (.bipush 11, 2) := dX7_status_r0.2.2.2.2.1
theorem dX7_status_9 : decode cX7_status 9 = .ok (.if_icmp .ge 15, 3) := dX7_status_r0.2.2.2.2.2.1
theorem dX7_status_12 : decode cX7_status 12 = .ok (.aload_n 0, 1) := dX7_status_r0.2.2.2.2.2.2.1
theorem dX7_status_13 : decode cX7_status 13 = .ok (.getfield 23, 3) := dX7_status_r0.2.2.2.2.2.2.2.1
theorem dX7_status_16 : decode cX7_status 16 = .ok (.iload_n 1, 1) := dX7_status_r0.2.2.2.2.2.2.2.2.1
theorem dX7_status_17 : decode cX7_status 17 = .ok (.bipush 6, 2) := dX7_status_r0.2.2.2.2.2.2.2.2.2.1
theorem dX7_status_19 : decode cX7_status 19 = .ok (.isub, 1) := dX7_status_r0.2.2.2.2.2.2.2.2.2.2.1
theorem dX7_status_20 : decode cX7_status 20 = .ok (.invokevirtual 183, 3) := dX7_status_r0.2.2.2.2.2.2.2.2.2.2.2.1
theorem dX7_status_23 : decode cX7_status 23 = .ok (.ireturn, 1) := dX7_status_r0.2.2.2.2.2.2.2.2.2.2.2.2.1
theorem dX7_status_24 : decode cX7_status 24 = .ok (.iload_n 1, 1) := dX7_status_r0.2.2.2.2.2.2.2.2.2.2.2.2.2.1
theorem dX7_status_25 : decode cX7_status 25 = .ok (.bipush 11, 2) := dX7_status_r0.2.2.2.2.2.2.2.2.2.2.2.2.2.2.1
theorem dX7_status_27 : decode cX7_status 27 = .ok (.if_icmp .lt 19, 3) := dX7_status_r0.2.2.2.2.2.2.2.2.2.2.2.2.2.2.2.1
theorem dX7_status_r30 : zdcP cX7_status 30 [(.iload_n 1, 1), (.bipush 18, 2), (.if_icmp .ge 13, 3), (.aload_n 0, 1), (.getfield 65, 3), (.iload_n 1, 1), (.bipush 10, 2), (.isub, 1), (.iaload, 1), (.ireturn, 1), (.iload_n 1, 1)] := zdcA_ok (by decide +kernel)
theorem dX7_status_30 : decode cX7_status 30 = .ok (.iload_n 1, 1) := dX7_status_r30.1
theorem dX7_status_31 : decode cX7_status 31 = .ok (.bipush 18, 2) := dX7_status_r30.2.1
theorem dX7_status_33 : decode cX7_status 33 = .ok (.if_icmp .ge 13, 3) := dX7_status_r30.2.2.1
theorem dX7_status_36 : decode cX7_status 36 = .ok (.aload_n 0, 1) := dX7_status_r30.2.2.2.1
theorem dX7_status_37 : decode cX7_status 37 = .ok (.getfield 65, 3) := dX7_status_r30.2.2.2.2.1
theorem dX7_status_40 : decode cX7_status 40 = .ok (.iload_n 1, 1) := dX7_status_r30.2.2.2.2.2.1
theorem dX7_status_41 : decode cX7_status 41 = .ok (.bipush 10, 2) := dX7_status_r30.2.2.2.2.2.2.1
theorem dX7_status_43 : decode cX7_status 43 = .ok (.isub, 1) := dX7_status_r30.2.2.2.2.2.2.2.1
theorem dX7_status_44 : decode cX7_status 44 = .ok (.iaload, 1) := dX7_status_r30.2.2.2.2.2.2.2.2.1
theorem dX7_status_45 : decode cX7_status 45 = .ok (.ireturn, 1) := dX7_status_r30.2.2.2.2.2.2.2.2.2.1
theorem dX7_status_46 : decode cX7_status 46 = .ok (.iload_n 1, 1) := dX7_status_r30.2.2.2.2.2.2.2.2.2.2.1
theorem dX7_status_47 : decode cX7_status 47 = .ok (.tableswitch 183 0 20 #[97, 108, 119, 127, 135, 143, 183, 183, 183, 183, 183, 183, 183, 183, 183, 183, 183, 183, 151, 159, 167], 97) := by decide +kernel
theorem dX7_status_r144 : zdcP cX7_status 144 [(.aload_n 0, 1), (.getfield 23, 3), (.getfield 30, 3), (.getfield 153, 3), (.ireturn, 1), (.aload_n 0, 1), (.getfield 23, 3), (.getfield 30, 3), (.getfield 146, 3), (.ireturn, 1), (.aload_n 0, 1), (.getfield 23, 3), (.getfield 221, 3), (.ireturn, 1), (.aload_n 0, 1), (.getfield 23, 3)] := zdcA_ok (by decide +kernel)
theorem dX7_status_144 : decode cX7_status 144 = .ok (.aload_n 0, 1) := dX7_status_r144.1
theorem dX7_status_145 : decode cX7_status 145 = .ok (.getfield 23, 3) := dX7_status_r144.2.1
theorem dX7_status_148 : decode cX7_status 148 = .ok (.getfield 30, 3) := dX7_status_r144.2.2.1
theorem dX7_status_151 : decode cX7_status 151 = .ok (.getfield 153, 3) := dX7_status_r144.2.2.2.1
theorem dX7_status_154 : decode cX7_status 154 = .ok (.ireturn, 1) := dX7_status_r144.2.2.2.2.1
theorem dX7_status_155 : decode cX7_status 155 = .ok (.aload_n 0, 1) := dX7_status_r144.2.2.2.2.2.1
theorem dX7_status_156 : decode cX7_status 156 = .ok (.getfield 23, 3) := dX7_status_r144.2.2.2.2.2.2.1
theorem dX7_status_159 : decode cX7_status 159 = .ok (.getfield 30, 3) := dX7_status_r144.2.2.2.2.2.2.2.1
theorem dX7_status_162 : decode cX7_status 162 = .ok (.getfield 146, 3) := dX7_status_r144.2.2.2.2.2.2.2.2.1
theorem dX7_status_165 : decode cX7_status 165 = .ok (.ireturn, 1) := dX7_status_r144.2.2.2.2.2.2.2.2.2.1
theorem dX7_status_166 : decode cX7_status 166 = .ok (.aload_n 0, 1) := dX7_status_r144.2.2.2.2.2.2.2.2.2.2.1
theorem dX7_status_167 : decode cX7_status 167 = .ok (.getfield 23, 3) := dX7_status_r144.2.2.2.2.2.2.2.2.2.2.2.1
theorem dX7_status_170 : decode cX7_status 170 = .ok (.getfield 221, 3) := dX7_status_r144.2.2.2.2.2.2.2.2.2.2.2.2.1
theorem dX7_status_173 : decode cX7_status 173 = .ok (.ireturn, 1) := dX7_status_r144.2.2.2.2.2.2.2.2.2.2.2.2.2.1
theorem dX7_status_174 : decode cX7_status 174 = .ok (.aload_n 0, 1) := dX7_status_r144.2.2.2.2.2.2.2.2.2.2.2.2.2.2.1
theorem dX7_status_175 : decode cX7_status 175 = .ok (.getfield 23, 3) := dX7_status_r144.2.2.2.2.2.2.2.2.2.2.2.2.2.2.2.1
theorem dX7_status_r178 : zdcP cX7_status 178 [(.getfield 230, 3), (.ireturn, 1), (.aload_n 0, 1), (.getfield 23, 3), (.getfield 277, 3), (.ireturn, 1), (.aload_n 0, 1), (.getfield 23, 3), (.getfield 304, 3), (.ireturn, 1), (.aload_n 0, 1), (.getfield 23, 3), (.getfield 310, 3), (.ireturn, 1), (.aload_n 0, 1), (.getfield 61, 3)] := zdcA_ok (by decide +kernel)
theorem dX7_status_178 : decode cX7_status 178 = .ok (.getfield 230, 3) := dX7_status_r178.1
theorem dX7_status_181 : decode cX7_status 181 = .ok (.ireturn, 1) := dX7_status_r178.2.1
theorem dX7_status_182 : decode cX7_status 182 = .ok (.aload_n 0, 1) := dX7_status_r178.2.2.1
theorem dX7_status_183 : decode cX7_status 183 = .ok (.getfield 23, 3) := dX7_status_r178.2.2.2.1
theorem dX7_status_186 : decode cX7_status 186 = .ok (.getfield 277, 3) := dX7_status_r178.2.2.2.2.1
theorem dX7_status_189 : decode cX7_status 189 = .ok (.ireturn, 1) := dX7_status_r178.2.2.2.2.2.1
theorem dX7_status_190 : decode cX7_status 190 = .ok (.aload_n 0, 1) := dX7_status_r178.2.2.2.2.2.2.1
theorem dX7_status_191 : decode cX7_status 191 = .ok (.getfield 23, 3) := dX7_status_r178.2.2.2.2.2.2.2.1
theorem dX7_status_194 : decode cX7_status 194 = .ok (.getfield 304, 3) := dX7_status_r178.2.2.2.2.2.2.2.2.1
theorem dX7_status_197 : decode cX7_status 197 = .ok (.ireturn, 1) := dX7_status_r178.2.2.2.2.2.2.2.2.2.1
theorem dX7_status_198 : decode cX7_status 198 = .ok (.aload_n 0, 1) := dX7_status_r178.2.2.2.2.2.2.2.2.2.2.1
theorem dX7_status_199 : decode cX7_status 199 = .ok (.getfield 23, 3) := dX7_status_r178.2.2.2.2.2.2.2.2.2.2.2.1
theorem dX7_status_202 : decode cX7_status 202 = .ok (.getfield 310, 3) := dX7_status_r178.2.2.2.2.2.2.2.2.2.2.2.2.1
theorem dX7_status_205 : decode cX7_status 205 = .ok (.ireturn, 1) := dX7_status_r178.2.2.2.2.2.2.2.2.2.2.2.2.2.1
theorem dX7_status_206 : decode cX7_status 206 = .ok (.aload_n 0, 1) := dX7_status_r178.2.2.2.2.2.2.2.2.2.2.2.2.2.2.1
theorem dX7_status_207 : decode cX7_status 207 = .ok (.getfield 61, 3) := dX7_status_r178.2.2.2.2.2.2.2.2.2.2.2.2.2.2.2.1
theorem dX7_status_r210 : zdcP cX7_status 210 [(.getfield 326, 3), (.ireturn, 1), (.aload_n 0, 1), (.getfield 23, 3), (.invokevirtual 136, 3), (.ifCond .eq 7, 3), (.iconst 1, 1), (.goto 4, 3), (.iconst 0, 1), (.ireturn, 1), (.iconst (-1), 1), (.ireturn, 1)] := zdcA_ok (by decide +kernel)
theorem dX7_status_210 : decode cX7_status 210 = .ok (.getfield 326, 3) := dX7_status_r210.1
theorem dX7_status_213 : decode cX7_status 213 = .ok (.ireturn, 1) := dX7_status_r210.2.1
theorem dX7_status_214 : decode cX7_status 214 = .ok (.aload_n 0, 1) := dX7_status_r210.2.2.1
theorem dX7_status_215 : decode cX7_status 215 = .ok (.getfield 23, 3) := dX7_status_r210.2.2.2.1
theorem dX7_status_218 : decode cX7_status 218 = .ok (.invokevirtual 136, 3) := dX7_status_r210.2.2.2.2.1
theorem dX7_status_221 : decode cX7_status 221 = .ok (.ifCond .eq 7, 3) := dX7_status_r210.2.2.2.2.2.1
theorem dX7_status_224 : decode cX7_status 224 = .ok (.iconst 1, 1) := dX7_status_r210.2.2.2.2.2.2.1
theorem dX7_status_225 : decode cX7_status 225 = .ok (.goto 4, 3) := dX7_status_r210.2.2.2.2.2.2.2.1
theorem dX7_status_228 : decode cX7_status 228 = .ok (.iconst 0, 1) := dX7_status_r210.2.2.2.2.2.2.2.2.1
theorem dX7_status_229 : decode cX7_status 229 = .ok (.ireturn, 1) := dX7_status_r210.2.2.2.2.2.2.2.2.2.1
theorem dX7_status_230 : decode cX7_status 230 = .ok (.iconst (-1), 1) := dX7_status_r210.2.2.2.2.2.2.2.2.2.2.1
theorem dX7_status_231 : decode cX7_status 231 = .ok (.ireturn, 1) := dX7_status_r210.2.2.2.2.2.2.2.2.2.2.2.1
def wq_108_46 (v1 : Int32) (m : zf_Me) (Q : Int32 → zf_Me → Prop) : Prop := (((v1.toInt < 0 ∨ v1.toInt > 20) → Q (-1) m) ∧ (v1.toInt = 0 → Q (m.1 3 5) m) ∧ (v1.toInt = 1 → Q (m.1 3 4) m) ∧ (v1.toInt = 2 → Q (m.1 2 10) m) ∧ (v1.toInt = 3 → Q (m.1 2 11) m) ∧ (v1.toInt = 4 → Q (m.1 2 4) m) ∧ (v1.toInt = 5 → Q (m.1 2 6) m) ∧ (v1.toInt = 6 → Q (-1) m) ∧ (v1.toInt = 7 → Q (-1) m) ∧ (v1.toInt = 8 → Q (-1) m) ∧ (v1.toInt = 9 → Q (-1) m) ∧ (v1.toInt = 10 → Q (-1) m) ∧ (v1.toInt = 11 → Q (-1) m) ∧ (v1.toInt = 12 → Q (-1) m) ∧ (v1.toInt = 13 → Q (-1) m) ∧ (v1.toInt = 14 → Q (-1) m) ∧ (v1.toInt = 15 → Q (-1) m) ∧ (v1.toInt = 16 → Q (-1) m) ∧ (v1.toInt = 17 → Q (-1) m) ∧ (v1.toInt = 18 → Q (m.1 2 12) m) ∧ (v1.toInt = 19 → Q (m.1 44 1) m) ∧ (v1.toInt = 20 → wp_48 2 3 8 m (fun b1 m2 => ((b1 = false → Q 0 m2) ∧ (b1 = true → Q 1 m2)))))
theorem zq_108_46 {d : Nat} (hd : 1 ≤ d) {v1 : Int32} {Q : Int32 → zf_Me → Prop} {m : zf_Me} (h : wq_108_46 v1 m Q) : zf_W none 0 0 d zt_108 46 [some (.inr (.inr (1, 0))), some (.inl v1)] [] m (zf_I Q) := by
  obtain ⟨e, rfl⟩ : ∃ z, d = z + 1 := ⟨d - 1, by omega⟩
  unfold wq_108_46 at h
  refine zf_ld (pc' := 47) (v := .inl v1) dX7_status_46 rfl (fun _ _ _ => rfl) rfl rfl rfl ?_
  refine zf_tsc (tgd := 230) dX7_status_47 rfl [144, 155, 166, 174, 182, 190, 230, 230, 230, 230, 230, 230, 230, 230, 230, 230, 230, 230, 198, 206, 214] (by decide) (by decide) (fun g => ?_) (zl_cons (fun g => ?_) (zl_cons (fun g => ?_) (zl_cons (fun g => ?_) (zl_cons (fun g => ?_) (zl_cons (fun g => ?_) (zl_cons (fun g => ?_) (zl_cons (fun g => ?_) (zl_cons (fun g => ?_) (zl_cons (fun g => ?_) (zl_cons (fun g => ?_) (zl_cons (fun g => ?_) (zl_cons (fun g => ?_) (zl_cons (fun g => ?_) (zl_cons (fun g => ?_) (zl_cons (fun g => ?_) (zl_cons (fun g => ?_) (zl_cons (fun g => ?_) (zl_cons (fun g => ?_) (zl_cons (fun g => ?_) (zl_cons (fun g => ?_) (zl_cons (fun g => ?_) (zl_nil))))))))))))))))))))))
  · replace h := h.1 (by omega)
    refine zf_ic (v := (-1)) (pc' := 231) dX7_status_230 rfl rfl ?_
    exact zf_ri dX7_status_231 rfl h
  · replace h := h.2.1 (by omega)
    refine zf_ld (pc' := 145) (v := .inr (.inr (1, 0))) dX7_status_144 rfl (fun _ _ _ => rfl) rfl rfl rfl ?_
    refine zf_gfr (pc' := 148) (b := 2) dX7_status_145 rfl rfl (by decide) rfl rfl ?_
    refine zf_gfr (pc' := 151) (b := 3) dX7_status_148 rfl rfl zf_walk2.1 zf_walk2.2.1 rfl ?_
    refine zf_gfi (pc' := 154) dX7_status_151 rfl rfl zf_walk2.2.2.1.1 zf_walk2.2.2.1.2.1 rfl ?_
    exact zf_ri dX7_status_154 rfl h
  · replace h := h.2.2.1 (by omega)
    refine zf_ld (pc' := 156) (v := .inr (.inr (1, 0))) dX7_status_155 rfl (fun _ _ _ => rfl) rfl rfl rfl ?_
    refine zf_gfr (pc' := 159) (b := 2) dX7_status_156 rfl rfl (by decide) rfl rfl ?_
    refine zf_gfr (pc' := 162) (b := 3) dX7_status_159 rfl rfl zf_walk2.1 zf_walk2.2.1 rfl ?_
    refine zf_gfi (pc' := 165) dX7_status_162 rfl rfl zf_walk2.2.2.1.1 zf_walk2.2.2.1.2.1 rfl ?_
    exact zf_ri dX7_status_165 rfl h
  · replace h := h.2.2.2.1 (by omega)
    refine zf_ld (pc' := 167) (v := .inr (.inr (1, 0))) dX7_status_166 rfl (fun _ _ _ => rfl) rfl rfl rfl ?_
    refine zf_gfr (pc' := 170) (b := 2) dX7_status_167 rfl rfl (by decide) rfl rfl ?_
    refine zf_gfi (pc' := 173) dX7_status_170 rfl rfl zf_walk2.1 zf_walk2.2.1 rfl ?_
    exact zf_ri dX7_status_173 rfl h
  · replace h := h.2.2.2.2.1 (by omega)
    refine zf_ld (pc' := 175) (v := .inr (.inr (1, 0))) dX7_status_174 rfl (fun _ _ _ => rfl) rfl rfl rfl ?_
    refine zf_gfr (pc' := 178) (b := 2) dX7_status_175 rfl rfl (by decide) rfl rfl ?_
    refine zf_gfi (pc' := 181) dX7_status_178 rfl rfl zf_walk2.1 zf_walk2.2.1 rfl ?_
    exact zf_ri dX7_status_181 rfl h
  · replace h := h.2.2.2.2.2.1 (by omega)
    refine zf_ld (pc' := 183) (v := .inr (.inr (1, 0))) dX7_status_182 rfl (fun _ _ _ => rfl) rfl rfl rfl ?_
    refine zf_gfr (pc' := 186) (b := 2) dX7_status_183 rfl rfl (by decide) rfl rfl ?_
    refine zf_gfi (pc' := 189) dX7_status_186 rfl rfl zf_walk2.1 zf_walk2.2.1 rfl ?_
    exact zf_ri dX7_status_189 rfl h
  · replace h := h.2.2.2.2.2.2.1 (by omega)
    refine zf_ld (pc' := 191) (v := .inr (.inr (1, 0))) dX7_status_190 rfl (fun _ _ _ => rfl) rfl rfl rfl ?_
    refine zf_gfr (pc' := 194) (b := 2) dX7_status_191 rfl rfl (by decide) rfl rfl ?_
    refine zf_gfi (pc' := 197) dX7_status_194 rfl rfl zf_walk2.1 zf_walk2.2.1 rfl ?_
    exact zf_ri dX7_status_197 rfl h
  · replace h := h.2.2.2.2.2.2.2.1 (by omega)
    refine zf_ic (v := (-1)) (pc' := 231) dX7_status_230 rfl rfl ?_
    exact zf_ri dX7_status_231 rfl h
  · replace h := h.2.2.2.2.2.2.2.2.1 (by omega)
    refine zf_ic (v := (-1)) (pc' := 231) dX7_status_230 rfl rfl ?_
    exact zf_ri dX7_status_231 rfl h
  · replace h := h.2.2.2.2.2.2.2.2.2.1 (by omega)
    refine zf_ic (v := (-1)) (pc' := 231) dX7_status_230 rfl rfl ?_
    exact zf_ri dX7_status_231 rfl h
  · replace h := h.2.2.2.2.2.2.2.2.2.2.1 (by omega)
    refine zf_ic (v := (-1)) (pc' := 231) dX7_status_230 rfl rfl ?_
    exact zf_ri dX7_status_231 rfl h
  · replace h := h.2.2.2.2.2.2.2.2.2.2.2.1 (by omega)
    refine zf_ic (v := (-1)) (pc' := 231) dX7_status_230 rfl rfl ?_
    exact zf_ri dX7_status_231 rfl h
  · replace h := h.2.2.2.2.2.2.2.2.2.2.2.2.1 (by omega)
    refine zf_ic (v := (-1)) (pc' := 231) dX7_status_230 rfl rfl ?_
    exact zf_ri dX7_status_231 rfl h
  · replace h := h.2.2.2.2.2.2.2.2.2.2.2.2.2.1 (by omega)
    refine zf_ic (v := (-1)) (pc' := 231) dX7_status_230 rfl rfl ?_
    exact zf_ri dX7_status_231 rfl h
  · replace h := h.2.2.2.2.2.2.2.2.2.2.2.2.2.2.1 (by omega)
    refine zf_ic (v := (-1)) (pc' := 231) dX7_status_230 rfl rfl ?_
    exact zf_ri dX7_status_231 rfl h
  · replace h := h.2.2.2.2.2.2.2.2.2.2.2.2.2.2.2.1 (by omega)
    refine zf_ic (v := (-1)) (pc' := 231) dX7_status_230 rfl rfl ?_
    exact zf_ri dX7_status_231 rfl h
  · replace h := h.2.2.2.2.2.2.2.2.2.2.2.2.2.2.2.2.1 (by omega)
    refine zf_ic (v := (-1)) (pc' := 231) dX7_status_230 rfl rfl ?_
    exact zf_ri dX7_status_231 rfl h
  · replace h := h.2.2.2.2.2.2.2.2.2.2.2.2.2.2.2.2.2.1 (by omega)
    refine zf_ic (v := (-1)) (pc' := 231) dX7_status_230 rfl rfl ?_
    exact zf_ri dX7_status_231 rfl h
  · replace h := h.2.2.2.2.2.2.2.2.2.2.2.2.2.2.2.2.2.2.1 (by omega)
    refine zf_ic (v := (-1)) (pc' := 231) dX7_status_230 rfl rfl ?_
    exact zf_ri dX7_status_231 rfl h
  · replace h := h.2.2.2.2.2.2.2.2.2.2.2.2.2.2.2.2.2.2.2.1 (by omega)
    refine zf_ld (pc' := 199) (v := .inr (.inr (1, 0))) dX7_status_198 rfl (fun _ _ _ => rfl) rfl rfl rfl ?_
    refine zf_gfr (pc' := 202) (b := 2) dX7_status_199 rfl rfl (by decide) rfl rfl ?_
    refine zf_gfi (pc' := 205) dX7_status_202 rfl rfl zf_walk2.1 zf_walk2.2.1 rfl ?_
    exact zf_ri dX7_status_205 rfl h
  · replace h := h.2.2.2.2.2.2.2.2.2.2.2.2.2.2.2.2.2.2.2.2.1 (by omega)
    refine zf_ld (pc' := 207) (v := .inr (.inr (1, 0))) dX7_status_206 rfl (fun _ _ _ => rfl) rfl rfl rfl ?_
    refine zf_gfr (pc' := 210) (b := 44) dX7_status_207 rfl rfl (by decide) rfl rfl ?_
    refine zf_gfi (pc' := 213) dX7_status_210 rfl rfl (by decide) rfl rfl ?_
    exact zf_ri dX7_status_213 rfl h
  · replace h := h.2.2.2.2.2.2.2.2.2.2.2.2.2.2.2.2.2.2.2.2.2 (by omega)
    refine zf_ld (pc' := 215) (v := .inr (.inr (1, 0))) dX7_status_214 rfl (fun _ _ _ => rfl) rfl rfl rfl ?_
    refine zf_gfr (pc' := 218) (b := 2) dX7_status_215 rfl rfl (by decide) rfl rfl ?_
    refine zf_iv (k := 48) (pc' := 221) (r := []) dX7_status_218 rfl rfl rfl rfl zf_walk2.1 zf_walk2.2.1 rfl rfl (zr_48 (by omega) zf_walk2 h) (zf_kB (fun b1 m2 h => ?_))
    refine zf_ib_eq (tgt := 228) (pc' := 224) dX7_status_221 rfl rfl (fun g => ?_) (fun g => ?_)
    · replace h := h.1 g
      refine zf_ic (v := 0) (pc' := 229) dX7_status_228 rfl rfl ?_
      exact zf_ri dX7_status_229 rfl h
    · replace h := h.2 g
      refine zf_ic (v := 1) (pc' := 225) dX7_status_224 rfl rfl ?_
      refine zf_goto (tgt := 229) dX7_status_225 rfl ?_
      exact zf_ri dX7_status_229 rfl h
def wq_108_24 (v1 : Int32) (m : zf_Me) (Q : Int32 → zf_Me → Prop) : Prop := ((v1.toInt < 11 → wq_108_46 v1 m Q) ∧ (v1.toInt ≥ 11 → ((v1.toInt ≥ 18 → wq_108_46 v1 m Q) ∧ (v1.toInt < 18 → ((0 ≤ (Int32.toInt (v1 - 10)) ∧ (Int32.toInt (v1 - 10)) < (8 : Int)) ∧ Q (m.1 46 (Int32.toInt (v1 - 10)).toNat) m)))))
theorem zq_108_24 {d : Nat} (hd : 1 ≤ d) {v1 : Int32} {Q : Int32 → zf_Me → Prop} {m : zf_Me} (h : wq_108_24 v1 m Q) : zf_W none 0 0 d zt_108 24 [some (.inr (.inr (1, 0))), some (.inl v1)] [] m (zf_I Q) := by
  unfold wq_108_24 at h
  refine zf_ld (pc' := 25) (v := .inl v1) dX7_status_24 rfl (fun _ _ _ => rfl) rfl rfl rfl ?_
  refine zf_bi (v := 11) (pc' := 27) dX7_status_25 rfl rfl ?_
  refine zf_icmp_lt (tgt := 46) (pc' := 30) dX7_status_27 rfl rfl (fun g => ?_) (fun g => ?_)
  · replace h := h.1 g
    exact zf_lo (zq_108_46 (by omega) h) ⟨rfl, rfl, trivial⟩
  · replace h := h.2 g
    refine zf_ld (pc' := 31) (v := .inl v1) dX7_status_30 rfl (fun _ _ _ => rfl) rfl rfl rfl ?_
    refine zf_bi (v := 18) (pc' := 33) dX7_status_31 rfl rfl ?_
    refine zf_icmp_ge (tgt := 46) (pc' := 36) dX7_status_33 rfl rfl (fun g => ?_) (fun g => ?_)
    · replace h := h.1 g
      exact zf_lo (zq_108_46 (by omega) h) ⟨rfl, rfl, trivial⟩
    · replace h := h.2 g
      refine zf_ld (pc' := 37) (v := .inr (.inr (1, 0))) dX7_status_36 rfl (fun _ _ _ => rfl) rfl rfl rfl ?_
      refine zf_gfr (pc' := 40) (b := 46) dX7_status_37 rfl rfl (by decide) rfl rfl ?_
      refine zf_ld (pc' := 41) (v := .inl v1) dX7_status_40 rfl (fun _ _ _ => rfl) rfl rfl rfl ?_
      refine zf_bi (v := 10) (pc' := 43) dX7_status_41 rfl rfl ?_
      refine zf_in (pc' := 44) (S' := [.inl (v1 - 10), .inr (.inr (1, 46))]) dX7_status_43 rfl (fun _ _ _ => rfl) ?_
      refine zf_ial (pc' := 45) dX7_status_44 rfl (⟨by decide, rfl⟩ : zf_arr 46 8).1 (⟨by decide, rfl⟩ : zf_arr 46 8).2 h.1 rfl ?_
      replace h := h.2
      exact zf_ri dX7_status_45 rfl h
def wp_108 (v1 : Int32) (m : zf_Me) (Q : Int32 → zf_Me → Prop) : Prop := ((v1.toInt < 6 → wq_108_24 v1 m Q) ∧ (v1.toInt ≥ 6 → ((v1.toInt ≥ 11 → wq_108_24 v1 m Q) ∧ (v1.toInt < 11 → wp_45 2 3 8 (v1 - 6) m (fun x3 m4 => Q x3 m4)))))
theorem zr_108 {d : Nat} (hd : 1 ≤ d) {v1 : Int32} {Q : Int32 → zf_Me → Prop} {m : zf_Me} (h : wp_108 v1 m Q) : zf_M d 108 [.inr (.inr (1, 0)), .inl v1] m (zf_I Q) := by
  obtain ⟨e, rfl⟩ : ∃ z, d = z + 1 := ⟨d - 1, by omega⟩
  unfold wp_108 at h
  refine zf_M_of (Nat.le_of_ble_eq_true rfl) zm_108 (L := [some (.inr (.inr (1, 0))), some (.inl v1)]) rfl ?_
  refine zf_ld (pc' := 1) (v := .inl v1) dX7_status_0 rfl (fun _ _ _ => rfl) rfl rfl rfl ?_
  refine zf_bi (v := 6) (pc' := 3) dX7_status_1 rfl rfl ?_
  refine zf_icmp_lt (tgt := 24) (pc' := 6) dX7_status_3 rfl rfl (fun g => ?_) (fun g => ?_)
  · replace h := h.1 g
    exact zf_lo (zq_108_24 (by omega) h) ⟨rfl, rfl, trivial⟩
  · replace h := h.2 g
    refine zf_ld (pc' := 7) (v := .inl v1) dX7_status_6 rfl (fun _ _ _ => rfl) rfl rfl rfl ?_
    refine zf_bi (v := 11) (pc' := 9) dX7_status_7 rfl rfl ?_
    refine zf_icmp_ge (tgt := 24) (pc' := 12) dX7_status_9 rfl rfl (fun g => ?_) (fun g => ?_)
    · replace h := h.1 g
      exact zf_lo (zq_108_24 (by omega) h) ⟨rfl, rfl, trivial⟩
    · replace h := h.2 g
      refine zf_ld (pc' := 13) (v := .inr (.inr (1, 0))) dX7_status_12 rfl (fun _ _ _ => rfl) rfl rfl rfl ?_
      refine zf_gfr (pc' := 16) (b := 2) dX7_status_13 rfl rfl (by decide) rfl rfl ?_
      refine zf_ld (pc' := 17) (v := .inl v1) dX7_status_16 rfl (fun _ _ _ => rfl) rfl rfl rfl ?_
      refine zf_bi (v := 6) (pc' := 19) dX7_status_17 rfl rfl ?_
      refine zf_in (pc' := 20) (S' := [.inl (v1 - 6), .inr (.inr (1, 2))]) dX7_status_19 rfl (fun _ _ _ => rfl) ?_
      refine zf_iv (k := 45) (pc' := 23) (r := []) dX7_status_20 rfl rfl rfl rfl zf_walk2.1 zf_walk2.2.1 rfl rfl (zr_45 (by omega) zf_walk2 h) (zf_kI (fun x3 m4 h => ?_))
      exact zf_ri dX7_status_23 rfl h
def zt_125 : zx_MT := (8, yX8_no, cX8_no, 2, (some FieldType.int), 1, 0)
theorem zm_125 : zx_m 125 = zt_125 := rfl
theorem dX8_no_r0 : zdcP cX8_no 0 [(.aload_n 0, 1), (.getfield 37, 3), (.iload_n 1, 1), (.ineg, 1), (.dup2, 1), (.iaload, 1), (.iconst 1, 1), (.iadd, 1), (.iastore, 1), (.iload_n 1, 1), (.ireturn, 1)] := zdcA_ok (by decide +kernel)
theorem dX8_no_0 : decode cX8_no 0 = .ok (.aload_n 0, 1) := dX8_no_r0.1
theorem dX8_no_1 : decode cX8_no 1 = .ok (.getfield 37, 3) := dX8_no_r0.2.1
theorem dX8_no_4 : decode cX8_no 4 = .ok (.iload_n 1, 1) := dX8_no_r0.2.2.1
theorem dX8_no_5 : decode cX8_no 5 = .ok (.ineg, 1) := dX8_no_r0.2.2.2.1
theorem dX8_no_6 : decode cX8_no 6 = .ok (.dup2, 1) := dX8_no_r0.2.2.2.2.1
theorem dX8_no_7 : decode cX8_no 7 = .ok (.iaload, 1) := dX8_no_r0.2.2.2.2.2.1
theorem dX8_no_8 : decode cX8_no 8 = .ok (.iconst 1, 1) := dX8_no_r0.2.2.2.2.2.2.1
theorem dX8_no_9 : decode cX8_no 9 = .ok (.iadd, 1) := dX8_no_r0.2.2.2.2.2.2.2.1
theorem dX8_no_10 : decode cX8_no 10 = .ok (.iastore, 1) := dX8_no_r0.2.2.2.2.2.2.2.2.1
theorem dX8_no_11 : decode cX8_no 11 = .ok (.iload_n 1, 1) := dX8_no_r0.2.2.2.2.2.2.2.2.2.1
theorem dX8_no_12 : decode cX8_no 12 = .ok (.ireturn, 1) := dX8_no_r0.2.2.2.2.2.2.2.2.2.2.1
def wp_125 (v1 : Int32) (m : zf_Me) (Q : Int32 → zf_Me → Prop) : Prop := ((0 ≤ (Int32.toInt (-v1)) ∧ (Int32.toInt (-v1)) < (8 : Int)) ∧ ((0 ≤ (Int32.toInt (-v1)) ∧ (Int32.toInt (-v1)) < (8 : Int)) ∧ ∀ m1, m1 = zf_u m 64 (Int32.toInt (-v1)).toNat ((m.1 64 (Int32.toInt (-v1)).toNat) + 1) → Q v1 m1))
theorem zr_125 {d : Nat} (hd : 0 ≤ d) {v1 : Int32} {Q : Int32 → zf_Me → Prop} {m : zf_Me} (h : wp_125 v1 m Q) : zf_M d 125 [.inr (.inr (1, 63)), .inl v1] m (zf_I Q) := by
  unfold wp_125 at h
  refine zf_M_of (Nat.le_of_ble_eq_true rfl) zm_125 (L := [some (.inr (.inr (1, 63))), some (.inl v1)]) rfl ?_
  refine zf_ld (pc' := 1) (v := .inr (.inr (1, 63))) dX8_no_0 rfl (fun _ _ _ => rfl) rfl rfl rfl ?_
  refine zf_gfr (pc' := 4) (b := 64) dX8_no_1 rfl rfl (by decide) rfl rfl ?_
  refine zf_ld (pc' := 5) (v := .inl v1) dX8_no_4 rfl (fun _ _ _ => rfl) rfl rfl rfl ?_
  refine zf_in (pc' := 6) (S' := [.inl (-v1), .inr (.inr (1, 64))]) dX8_no_5 rfl (fun _ _ _ => rfl) ?_
  refine zf_in (pc' := 7) (S' := [.inl (-v1), .inr (.inr (1, 64)), .inl (-v1), .inr (.inr (1, 64))]) dX8_no_6 rfl (fun _ _ _ => rfl) ?_
  refine zf_ial (pc' := 8) dX8_no_7 rfl (⟨by decide, rfl⟩ : zf_arr 64 8).1 (⟨by decide, rfl⟩ : zf_arr 64 8).2 h.1 rfl ?_
  replace h := h.2
  refine zf_ic (v := 1) (pc' := 9) dX8_no_8 rfl rfl ?_
  refine zf_in (pc' := 10) (S' := [.inl ((m.1 64 (Int32.toInt (-v1)).toNat) + 1), .inl (-v1), .inr (.inr (1, 64))]) dX8_no_9 rfl (fun _ _ _ => rfl) ?_
  refine zf_ias (pc' := 11) dX8_no_10 rfl (⟨by decide, rfl⟩ : zf_arr 64 8).1 (⟨by decide, rfl⟩ : zf_arr 64 8).2 h.1 rfl (fun m1 e2 => ?_)
  replace h := h.2 m1 e2
  refine zf_ld (pc' := 12) (v := .inl v1) dX8_no_11 rfl (fun _ _ _ => rfl) rfl rfl rfl ?_
  exact zf_ri dX8_no_12 rfl h
def zt_126 : zx_MT := (8, yX8_noTen, cX8_noTen, 2, (some FieldType.int), 1, 0)
theorem zm_126 : zx_m 126 = zt_126 := rfl
theorem dX8_noTen_r0 : zdcP cX8_noTen 0 [(.aload_n 0, 1), (.getfield 37, 3), (.iload_n 1, 1), (.ineg, 1), (.dup2, 1), (.iaload, 1), (.iconst 1, 1), (.iadd, 1), (.iastore, 1), (.iload_n 1, 1), (.bipush 10, 2), (.isub, 1), (.ireturn, 1)] := zdcA_ok (by decide +kernel)
theorem dX8_noTen_0 : decode cX8_noTen 0 = .ok (.aload_n 0, 1) := dX8_noTen_r0.1
theorem dX8_noTen_1 : decode cX8_noTen 1 = .ok (.getfield 37, 3) := dX8_noTen_r0.2.1
theorem dX8_noTen_4 : decode cX8_noTen 4 = .ok (.iload_n 1, 1) := dX8_noTen_r0.2.2.1
theorem dX8_noTen_5 : decode cX8_noTen 5 = .ok (.ineg, 1) := dX8_noTen_r0.2.2.2.1
theorem dX8_noTen_6 : decode cX8_noTen 6 = .ok (.dup2, 1) := dX8_noTen_r0.2.2.2.2.1
theorem dX8_noTen_7 : decode cX8_noTen 7 = .ok (.iaload, 1) := dX8_noTen_r0.2.2.2.2.2.1
theorem dX8_noTen_8 : decode cX8_noTen 8 = .ok (.iconst 1, 1) := dX8_noTen_r0.2.2.2.2.2.2.1
theorem dX8_noTen_9 : decode cX8_noTen 9 = .ok (.iadd, 1) := dX8_noTen_r0.2.2.2.2.2.2.2.1
theorem dX8_noTen_10 : decode cX8_noTen 10 = .ok (.iastore, 1) := dX8_noTen_r0.2.2.2.2.2.2.2.2.1
theorem dX8_noTen_11 : decode cX8_noTen 11 = .ok (.iload_n 1, 1) := dX8_noTen_r0.2.2.2.2.2.2.2.2.2.1
theorem dX8_noTen_12 : decode cX8_noTen 12 = .ok (.bipush 10, 2) := dX8_noTen_r0.2.2.2.2.2.2.2.2.2.2.1
theorem dX8_noTen_14 : decode cX8_noTen 14 = .ok (.isub, 1) := dX8_noTen_r0.2.2.2.2.2.2.2.2.2.2.2.1
theorem dX8_noTen_15 : decode cX8_noTen 15 = .ok (.ireturn, 1) := dX8_noTen_r0.2.2.2.2.2.2.2.2.2.2.2.2.1
def wp_126 (v1 : Int32) (m : zf_Me) (Q : Int32 → zf_Me → Prop) : Prop := ((0 ≤ (Int32.toInt (-v1)) ∧ (Int32.toInt (-v1)) < (8 : Int)) ∧ ((0 ≤ (Int32.toInt (-v1)) ∧ (Int32.toInt (-v1)) < (8 : Int)) ∧ ∀ m1, m1 = zf_u m 64 (Int32.toInt (-v1)).toNat ((m.1 64 (Int32.toInt (-v1)).toNat) + 1) → Q (v1 - 10) m1))
theorem zr_126 {d : Nat} (hd : 0 ≤ d) {v1 : Int32} {Q : Int32 → zf_Me → Prop} {m : zf_Me} (h : wp_126 v1 m Q) : zf_M d 126 [.inr (.inr (1, 63)), .inl v1] m (zf_I Q) := by
  unfold wp_126 at h
  refine zf_M_of (Nat.le_of_ble_eq_true rfl) zm_126 (L := [some (.inr (.inr (1, 63))), some (.inl v1)]) rfl ?_
  refine zf_ld (pc' := 1) (v := .inr (.inr (1, 63))) dX8_noTen_0 rfl (fun _ _ _ => rfl) rfl rfl rfl ?_
  refine zf_gfr (pc' := 4) (b := 64) dX8_noTen_1 rfl rfl (by decide) rfl rfl ?_
  refine zf_ld (pc' := 5) (v := .inl v1) dX8_noTen_4 rfl (fun _ _ _ => rfl) rfl rfl rfl ?_
  refine zf_in (pc' := 6) (S' := [.inl (-v1), .inr (.inr (1, 64))]) dX8_noTen_5 rfl (fun _ _ _ => rfl) ?_
  refine zf_in (pc' := 7) (S' := [.inl (-v1), .inr (.inr (1, 64)), .inl (-v1), .inr (.inr (1, 64))]) dX8_noTen_6 rfl (fun _ _ _ => rfl) ?_
  refine zf_ial (pc' := 8) dX8_noTen_7 rfl (⟨by decide, rfl⟩ : zf_arr 64 8).1 (⟨by decide, rfl⟩ : zf_arr 64 8).2 h.1 rfl ?_
  replace h := h.2
  refine zf_ic (v := 1) (pc' := 9) dX8_noTen_8 rfl rfl ?_
  refine zf_in (pc' := 10) (S' := [.inl ((m.1 64 (Int32.toInt (-v1)).toNat) + 1), .inl (-v1), .inr (.inr (1, 64))]) dX8_noTen_9 rfl (fun _ _ _ => rfl) ?_
  refine zf_ias (pc' := 11) dX8_noTen_10 rfl (⟨by decide, rfl⟩ : zf_arr 64 8).1 (⟨by decide, rfl⟩ : zf_arr 64 8).2 h.1 rfl (fun m1 e2 => ?_)
  replace h := h.2 m1 e2
  refine zf_ld (pc' := 12) (v := .inl v1) dX8_noTen_11 rfl (fun _ _ _ => rfl) rfl rfl rfl ?_
  refine zf_bi (v := 10) (pc' := 14) dX8_noTen_12 rfl rfl ?_
  refine zf_in (pc' := 15) (S' := [.inl (v1 - 10)]) dX8_noTen_14 rfl (fun _ _ _ => rfl) ?_
  exact zf_ri dX8_noTen_15 rfl h
def zt_127 : zx_MT := (8, yX8_isShelf, cX8_isShelf, 2, (some FieldType.boolean), 1, 0)
theorem zm_127 : zx_m 127 = zt_127 := rfl
theorem dX8_isShelf_r0 : zdcP cX8_isShelf 0 [(.iload_n 1, 1), (.ifCond .lt 13, 3), (.iload_n 1, 1), (.bipush 8, 2), (.if_icmp .ge 7, 3), (.iconst 1, 1), (.goto 4, 3), (.iconst 0, 1), (.ireturn, 1)] := zdcA_ok (by decide +kernel)
theorem dX8_isShelf_0 : decode cX8_isShelf 0 = .ok (.iload_n 1, 1) := dX8_isShelf_r0.1
theorem dX8_isShelf_1 : decode cX8_isShelf 1 = .ok (.ifCond .lt 13, 3) := dX8_isShelf_r0.2.1
theorem dX8_isShelf_4 : decode cX8_isShelf 4 = .ok (.iload_n 1, 1) := dX8_isShelf_r0.2.2.1
theorem dX8_isShelf_5 : decode cX8_isShelf 5 = .ok (.bipush 8, 2) := dX8_isShelf_r0.2.2.2.1
theorem dX8_isShelf_7 : decode cX8_isShelf 7 = .ok (.if_icmp .ge 7, 3) := dX8_isShelf_r0.2.2.2.2.1
theorem dX8_isShelf_10 : decode cX8_isShelf 10 = .ok (.iconst 1, 1) := dX8_isShelf_r0.2.2.2.2.2.1
theorem dX8_isShelf_11 : decode cX8_isShelf 11 = .ok (.goto 4, 3) := dX8_isShelf_r0.2.2.2.2.2.2.1
theorem dX8_isShelf_14 : decode cX8_isShelf 14 = .ok (.iconst 0, 1) := dX8_isShelf_r0.2.2.2.2.2.2.2.1
theorem dX8_isShelf_15 : decode cX8_isShelf 15 = .ok (.ireturn, 1) := dX8_isShelf_r0.2.2.2.2.2.2.2.2.1
def wp_127 (v1 : Int32) (m : zf_Me) (Q : Bool → zf_Me → Prop) : Prop := ((v1.toInt < 0 → Q false m) ∧ (v1.toInt ≥ 0 → ((v1.toInt ≥ 8 → Q false m) ∧ (v1.toInt < 8 → Q true m))))
theorem zr_127 {d : Nat} (hd : 0 ≤ d) {v1 : Int32} {Q : Bool → zf_Me → Prop} {m : zf_Me} (h : wp_127 v1 m Q) : zf_M d 127 [.inr (.inr (1, 63)), .inl v1] m (zf_B Q) := by
  unfold wp_127 at h
  refine zf_M_of (Nat.le_of_ble_eq_true rfl) zm_127 (L := [some (.inr (.inr (1, 63))), some (.inl v1)]) rfl ?_
  refine zf_ld (pc' := 1) (v := .inl v1) dX8_isShelf_0 rfl (fun _ _ _ => rfl) rfl rfl rfl ?_
  refine zf_if_lt (tgt := 14) (pc' := 4) dX8_isShelf_1 rfl rfl (fun g => ?_) (fun g => ?_)
  · replace h := h.1 g
    refine zf_ic (v := 0) (pc' := 15) dX8_isShelf_14 rfl rfl ?_
    exact zf_rb (b := false) dX8_isShelf_15 rfl h
  · replace h := h.2 g
    refine zf_ld (pc' := 5) (v := .inl v1) dX8_isShelf_4 rfl (fun _ _ _ => rfl) rfl rfl rfl ?_
    refine zf_bi (v := 8) (pc' := 7) dX8_isShelf_5 rfl rfl ?_
    refine zf_icmp_ge (tgt := 14) (pc' := 10) dX8_isShelf_7 rfl rfl (fun g => ?_) (fun g => ?_)
    · replace h := h.1 g
      refine zf_ic (v := 0) (pc' := 15) dX8_isShelf_14 rfl rfl ?_
      exact zf_rb (b := false) dX8_isShelf_15 rfl h
    · replace h := h.2 g
      refine zf_ic (v := 1) (pc' := 11) dX8_isShelf_10 rfl rfl ?_
      refine zf_goto (tgt := 15) dX8_isShelf_11 rfl ?_
      exact zf_rb (b := true) dX8_isShelf_15 rfl h
def zt_128 : zx_MT := (8, yX8_isPerson, cX8_isPerson, 2, (some FieldType.boolean), 1, 0)
theorem zm_128 : zx_m 128 = zt_128 := rfl
theorem dX8_isPerson_r0 : zdcP cX8_isPerson 0 [(.iload_n 1, 1), (.ifCond .lt 15, 3), (.iload_n 1, 1), (.aload_n 0, 1), (.getfield 105, 3), (.if_icmp .ge 7, 3), (.iconst 1, 1), (.goto 4, 3), (.iconst 0, 1), (.ireturn, 1)] := zdcA_ok (by decide +kernel)
theorem dX8_isPerson_0 : decode cX8_isPerson 0 = .ok (.iload_n 1, 1) := dX8_isPerson_r0.1
theorem dX8_isPerson_1 : decode cX8_isPerson 1 = .ok (.ifCond .lt 15, 3) := dX8_isPerson_r0.2.1
theorem dX8_isPerson_4 : decode cX8_isPerson 4 = .ok (.iload_n 1, 1) := dX8_isPerson_r0.2.2.1
theorem dX8_isPerson_5 : decode cX8_isPerson 5 = .ok (.aload_n 0, 1) := dX8_isPerson_r0.2.2.2.1
theorem dX8_isPerson_6 : decode cX8_isPerson 6 = .ok (.getfield 105, 3) := dX8_isPerson_r0.2.2.2.2.1
theorem dX8_isPerson_9 : decode cX8_isPerson 9 = .ok (.if_icmp .ge 7, 3) := dX8_isPerson_r0.2.2.2.2.2.1
theorem dX8_isPerson_12 : decode cX8_isPerson 12 = .ok (.iconst 1, 1) := dX8_isPerson_r0.2.2.2.2.2.2.1
theorem dX8_isPerson_13 : decode cX8_isPerson 13 = .ok (.goto 4, 3) := dX8_isPerson_r0.2.2.2.2.2.2.2.1
theorem dX8_isPerson_16 : decode cX8_isPerson 16 = .ok (.iconst 0, 1) := dX8_isPerson_r0.2.2.2.2.2.2.2.2.1
theorem dX8_isPerson_17 : decode cX8_isPerson 17 = .ok (.ireturn, 1) := dX8_isPerson_r0.2.2.2.2.2.2.2.2.2.1
def wp_128 (v1 : Int32) (m : zf_Me) (Q : Bool → zf_Me → Prop) : Prop := ((v1.toInt < 0 → Q false m) ∧ (v1.toInt ≥ 0 → ((v1.toInt ≥ ((m.1 63 1)).toInt → Q false m) ∧ (v1.toInt < ((m.1 63 1)).toInt → Q true m))))
theorem zr_128 {d : Nat} (hd : 0 ≤ d) {v1 : Int32} {Q : Bool → zf_Me → Prop} {m : zf_Me} (h : wp_128 v1 m Q) : zf_M d 128 [.inr (.inr (1, 63)), .inl v1] m (zf_B Q) := by
  unfold wp_128 at h
  refine zf_M_of (Nat.le_of_ble_eq_true rfl) zm_128 (L := [some (.inr (.inr (1, 63))), some (.inl v1)]) rfl ?_
  refine zf_ld (pc' := 1) (v := .inl v1) dX8_isPerson_0 rfl (fun _ _ _ => rfl) rfl rfl rfl ?_
  refine zf_if_lt (tgt := 16) (pc' := 4) dX8_isPerson_1 rfl rfl (fun g => ?_) (fun g => ?_)
  · replace h := h.1 g
    refine zf_ic (v := 0) (pc' := 17) dX8_isPerson_16 rfl rfl ?_
    exact zf_rb (b := false) dX8_isPerson_17 rfl h
  · replace h := h.2 g
    refine zf_ld (pc' := 5) (v := .inl v1) dX8_isPerson_4 rfl (fun _ _ _ => rfl) rfl rfl rfl ?_
    refine zf_ld (pc' := 6) (v := .inr (.inr (1, 63))) dX8_isPerson_5 rfl (fun _ _ _ => rfl) rfl rfl rfl ?_
    refine zf_gfi (pc' := 9) dX8_isPerson_6 rfl rfl (by decide) rfl rfl ?_
    refine zf_icmp_ge (tgt := 16) (pc' := 12) dX8_isPerson_9 rfl rfl (fun g => ?_) (fun g => ?_)
    · replace h := h.1 g
      refine zf_ic (v := 0) (pc' := 17) dX8_isPerson_16 rfl rfl ?_
      exact zf_rb (b := false) dX8_isPerson_17 rfl h
    · replace h := h.2 g
      refine zf_ic (v := 1) (pc' := 13) dX8_isPerson_12 rfl rfl ?_
      refine zf_goto (tgt := 17) dX8_isPerson_13 rfl ?_
      exact zf_rb (b := true) dX8_isPerson_17 rfl h
def zt_129 : zx_MT := (8, yX8_isFurlong, cX8_isFurlong, 2, (some FieldType.boolean), 1, 0)
theorem zm_129 : zx_m 129 = zt_129 := rfl
theorem dX8_isFurlong_r0 : zdcP cX8_isFurlong 0 [(.iload_n 1, 1), (.ifCond .lt 15, 3), (.iload_n 1, 1), (.aload_n 0, 1), (.getfield 108, 3), (.if_icmp .ge 7, 3), (.iconst 1, 1), (.goto 4, 3), (.iconst 0, 1), (.ireturn, 1)] := zdcA_ok (by decide +kernel)
theorem dX8_isFurlong_0 : decode cX8_isFurlong 0 = .ok (.iload_n 1, 1) := dX8_isFurlong_r0.1
theorem dX8_isFurlong_1 : decode cX8_isFurlong 1 = .ok (.ifCond .lt 15, 3) := dX8_isFurlong_r0.2.1
theorem dX8_isFurlong_4 : decode cX8_isFurlong 4 = .ok (.iload_n 1, 1) := dX8_isFurlong_r0.2.2.1
theorem dX8_isFurlong_5 : decode cX8_isFurlong 5 = .ok (.aload_n 0, 1) := dX8_isFurlong_r0.2.2.2.1
theorem dX8_isFurlong_6 : decode cX8_isFurlong 6 = .ok (.getfield 108, 3) := dX8_isFurlong_r0.2.2.2.2.1
theorem dX8_isFurlong_9 : decode cX8_isFurlong 9 = .ok (.if_icmp .ge 7, 3) := dX8_isFurlong_r0.2.2.2.2.2.1
theorem dX8_isFurlong_12 : decode cX8_isFurlong 12 = .ok (.iconst 1, 1) := dX8_isFurlong_r0.2.2.2.2.2.2.1
theorem dX8_isFurlong_13 : decode cX8_isFurlong 13 = .ok (.goto 4, 3) := dX8_isFurlong_r0.2.2.2.2.2.2.2.1
theorem dX8_isFurlong_16 : decode cX8_isFurlong 16 = .ok (.iconst 0, 1) := dX8_isFurlong_r0.2.2.2.2.2.2.2.2.1
theorem dX8_isFurlong_17 : decode cX8_isFurlong 17 = .ok (.ireturn, 1) := dX8_isFurlong_r0.2.2.2.2.2.2.2.2.2.1
def wp_129 (v1 : Int32) (m : zf_Me) (Q : Bool → zf_Me → Prop) : Prop := ((v1.toInt < 0 → Q false m) ∧ (v1.toInt ≥ 0 → ((v1.toInt ≥ ((m.1 63 0)).toInt → Q false m) ∧ (v1.toInt < ((m.1 63 0)).toInt → Q true m))))
theorem zr_129 {d : Nat} (hd : 0 ≤ d) {v1 : Int32} {Q : Bool → zf_Me → Prop} {m : zf_Me} (h : wp_129 v1 m Q) : zf_M d 129 [.inr (.inr (1, 63)), .inl v1] m (zf_B Q) := by
  unfold wp_129 at h
  refine zf_M_of (Nat.le_of_ble_eq_true rfl) zm_129 (L := [some (.inr (.inr (1, 63))), some (.inl v1)]) rfl ?_
  refine zf_ld (pc' := 1) (v := .inl v1) dX8_isFurlong_0 rfl (fun _ _ _ => rfl) rfl rfl rfl ?_
  refine zf_if_lt (tgt := 16) (pc' := 4) dX8_isFurlong_1 rfl rfl (fun g => ?_) (fun g => ?_)
  · replace h := h.1 g
    refine zf_ic (v := 0) (pc' := 17) dX8_isFurlong_16 rfl rfl ?_
    exact zf_rb (b := false) dX8_isFurlong_17 rfl h
  · replace h := h.2 g
    refine zf_ld (pc' := 5) (v := .inl v1) dX8_isFurlong_4 rfl (fun _ _ _ => rfl) rfl rfl rfl ?_
    refine zf_ld (pc' := 6) (v := .inr (.inr (1, 63))) dX8_isFurlong_5 rfl (fun _ _ _ => rfl) rfl rfl rfl ?_
    refine zf_gfi (pc' := 9) dX8_isFurlong_6 rfl rfl (by decide) rfl rfl ?_
    refine zf_icmp_ge (tgt := 16) (pc' := 12) dX8_isFurlong_9 rfl rfl (fun g => ?_) (fun g => ?_)
    · replace h := h.1 g
      refine zf_ic (v := 0) (pc' := 17) dX8_isFurlong_16 rfl rfl ?_
      exact zf_rb (b := false) dX8_isFurlong_17 rfl h
    · replace h := h.2 g
      refine zf_ic (v := 1) (pc' := 13) dX8_isFurlong_12 rfl rfl ?_
      refine zf_goto (tgt := 17) dX8_isFurlong_13 rfl ?_
      exact zf_rb (b := true) dX8_isFurlong_17 rfl h
def zt_130 : zx_MT := (8, yX8_row, cX8_row, 5, (some FieldType.int), 3, 0)
theorem zm_130 : zx_m 130 = zt_130 := rfl
theorem dX8_row_r0 : zdcP cX8_row 0 [(.aload_n 0, 1), (.iload_n 1, 1), (.invokevirtual 111, 3), (.ifCond .ne 9, 3), (.aload_n 0, 1), (.iconst (-1), 1), (.invokevirtual 115, 3), (.ireturn, 1), (.iload_n 3, 1), (.ifCond .ge 10, 3), (.aload_n 0, 1), (.bipush (-4), 2), (.invokevirtual 115, 3), (.ireturn, 1), (.iload_n 2, 1), (.ifCond .lt 8, 3)] := zdcA_ok (by decide +kernel)
theorem dX8_row_0 : decode cX8_row 0 = .ok (.aload_n 0, 1) := dX8_row_r0.1
theorem dX8_row_1 : decode cX8_row 1 = .ok (.iload_n 1, 1) := dX8_row_r0.2.1
theorem dX8_row_2 : decode cX8_row 2 = .ok (.invokevirtual 111, 3) := dX8_row_r0.2.2.1
theorem dX8_row_5 : decode cX8_row 5 = .ok (.ifCond .ne 9, 3) := dX8_row_r0.2.2.2.1
theorem dX8_row_8 : decode cX8_row 8 = .ok (.aload_n 0, 1) := dX8_row_r0.2.2.2.2.1
theorem dX8_row_9 : decode cX8_row 9 = .ok (.iconst (-1), 1) := dX8_row_r0.2.2.2.2.2.1
theorem dX8_row_10 : decode cX8_row 10 = .ok (.invokevirtual 115, 3) := dX8_row_r0.2.2.2.2.2.2.1
theorem dX8_row_13 : decode cX8_row 13 = .ok (.ireturn, 1) := dX8_row_r0.2.2.2.2.2.2.2.1
theorem dX8_row_14 : decode cX8_row 14 = .ok (.iload_n 3, 1) := dX8_row_r0.2.2.2.2.2.2.2.2.1
theorem dX8_row_15 : decode cX8_row 15 = .ok (.ifCond .ge 10, 3) := dX8_row_r0.2.2.2.2.2.2.2.2.2.1
theorem dX8_row_18 : decode cX8_row 18 = .ok (.aload_n 0, 1) := dX8_row_r0.2.2.2.2.2.2.2.2.2.2.1
theorem dX8_row_19 : decode cX8_row 19 = .ok (.bipush (-4), 2) := dX8_row_r0.2.2.2.2.2.2.2.2.2.2.2.1
theorem dX8_row_21 : decode cX8_row 21 = .ok (.invokevirtual 115, 3) := dX8_row_r0.2.2.2.2.2.2.2.2.2.2.2.2.1
theorem dX8_row_24 : decode cX8_row 24 = .ok (.ireturn, 1) := dX8_row_r0.2.2.2.2.2.2.2.2.2.2.2.2.2.1
theorem dX8_row_25 : decode cX8_row 25 = .ok (.iload_n 2, 1) := dX8_row_r0.2.2.2.2.2.2.2.2.2.2.2.2.2.2.1
theorem dX8_row_26 : decode cX8_row 26 = .ok (.ifCond .lt 8, 3) := dX8_row_r0.2.2.2.2.2.2.2.2.2.2.2.2.2.2.2.1
theorem dX8_row_r29 : zdcP cX8_row 29 [(.iload_n 2, 1), (.iconst 3, 1), (.if_icmp .le 10, 3), (.aload_n 0, 1), (.bipush (-6), 2), (.invokevirtual 115, 3), (.ireturn, 1), (.iload_n 3, 1), (.sipush 160, 3), (.if_icmp .le 10, 3), (.aload_n 0, 1), (.bipush (-7), 2), (.invokevirtual 115, 3), (.ireturn, 1), (.aload_n 0, 1), (.getfield 56, 3)] := zdcA_ok (by decide +kernel)
theorem dX8_row_29 : decode cX8_row 29 = .ok (.iload_n 2, 1) := dX8_row_r29.1
theorem dX8_row_30 : decode cX8_row 30 = .ok (.iconst 3, 1) := dX8_row_r29.2.1
theorem dX8_row_31 : decode cX8_row 31 = .ok (.if_icmp .le 10, 3) := dX8_row_r29.2.2.1
theorem dX8_row_34 : decode cX8_row 34 = .ok (.aload_n 0, 1) := dX8_row_r29.2.2.2.1
theorem dX8_row_35 : decode cX8_row 35 = .ok (.bipush (-6), 2) := dX8_row_r29.2.2.2.2.1
theorem dX8_row_37 : decode cX8_row 37 = .ok (.invokevirtual 115, 3) := dX8_row_r29.2.2.2.2.2.1
theorem dX8_row_40 : decode cX8_row 40 = .ok (.ireturn, 1) := dX8_row_r29.2.2.2.2.2.2.1
theorem dX8_row_41 : decode cX8_row 41 = .ok (.iload_n 3, 1) := dX8_row_r29.2.2.2.2.2.2.2.1
theorem dX8_row_42 : decode cX8_row 42 = .ok (.sipush 160, 3) := dX8_row_r29.2.2.2.2.2.2.2.2.1
theorem dX8_row_45 : decode cX8_row 45 = .ok (.if_icmp .le 10, 3) := dX8_row_r29.2.2.2.2.2.2.2.2.2.1
theorem dX8_row_48 : decode cX8_row 48 = .ok (.aload_n 0, 1) := dX8_row_r29.2.2.2.2.2.2.2.2.2.2.1
theorem dX8_row_49 : decode cX8_row 49 = .ok (.bipush (-7), 2) := dX8_row_r29.2.2.2.2.2.2.2.2.2.2.2.1
theorem dX8_row_51 : decode cX8_row 51 = .ok (.invokevirtual 115, 3) := dX8_row_r29.2.2.2.2.2.2.2.2.2.2.2.2.1
theorem dX8_row_54 : decode cX8_row 54 = .ok (.ireturn, 1) := dX8_row_r29.2.2.2.2.2.2.2.2.2.2.2.2.2.1
theorem dX8_row_55 : decode cX8_row 55 = .ok (.aload_n 0, 1) := dX8_row_r29.2.2.2.2.2.2.2.2.2.2.2.2.2.2.1
theorem dX8_row_56 : decode cX8_row 56 = .ok (.getfield 56, 3) := dX8_row_r29.2.2.2.2.2.2.2.2.2.2.2.2.2.2.2.1
theorem dX8_row_r59 : zdcP cX8_row 59 [(.iload_n 1, 1), (.iconst 1, 1), (.iastore, 1), (.aload_n 0, 1), (.getfield 59, 3), (.iload_n 1, 1), (.iload_n 2, 1), (.iastore, 1), (.aload_n 0, 1), (.getfield 62, 3), (.iload_n 1, 1), (.iload_n 3, 1), (.iastore, 1), (.iconst 0, 1), (.istore 4, 2), (.iload 4, 2)] := zdcA_ok (by decide +kernel)
theorem dX8_row_59 : decode cX8_row 59 = .ok (.iload_n 1, 1) := dX8_row_r59.1
theorem dX8_row_60 : decode cX8_row 60 = .ok (.iconst 1, 1) := dX8_row_r59.2.1
theorem dX8_row_61 : decode cX8_row 61 = .ok (.iastore, 1) := dX8_row_r59.2.2.1
theorem dX8_row_62 : decode cX8_row 62 = .ok (.aload_n 0, 1) := dX8_row_r59.2.2.2.1
theorem dX8_row_63 : decode cX8_row 63 = .ok (.getfield 59, 3) := dX8_row_r59.2.2.2.2.1
theorem dX8_row_66 : decode cX8_row 66 = .ok (.iload_n 1, 1) := dX8_row_r59.2.2.2.2.2.1
theorem dX8_row_67 : decode cX8_row 67 = .ok (.iload_n 2, 1) := dX8_row_r59.2.2.2.2.2.2.1
theorem dX8_row_68 : decode cX8_row 68 = .ok (.iastore, 1) := dX8_row_r59.2.2.2.2.2.2.2.1
theorem dX8_row_69 : decode cX8_row 69 = .ok (.aload_n 0, 1) := dX8_row_r59.2.2.2.2.2.2.2.2.1
theorem dX8_row_70 : decode cX8_row 70 = .ok (.getfield 62, 3) := dX8_row_r59.2.2.2.2.2.2.2.2.2.1
theorem dX8_row_73 : decode cX8_row 73 = .ok (.iload_n 1, 1) := dX8_row_r59.2.2.2.2.2.2.2.2.2.2.1
theorem dX8_row_74 : decode cX8_row 74 = .ok (.iload_n 3, 1) := dX8_row_r59.2.2.2.2.2.2.2.2.2.2.2.1
theorem dX8_row_75 : decode cX8_row 75 = .ok (.iastore, 1) := dX8_row_r59.2.2.2.2.2.2.2.2.2.2.2.2.1
theorem dX8_row_76 : decode cX8_row 76 = .ok (.iconst 0, 1) := dX8_row_r59.2.2.2.2.2.2.2.2.2.2.2.2.2.1
theorem dX8_row_77 : decode cX8_row 77 = .ok (.istore 4, 2) := dX8_row_r59.2.2.2.2.2.2.2.2.2.2.2.2.2.2.1
theorem dX8_row_79 : decode cX8_row 79 = .ok (.iload 4, 2) := dX8_row_r59.2.2.2.2.2.2.2.2.2.2.2.2.2.2.2.1
theorem dX8_row_r81 : zdcP cX8_row 81 [(.sipush 160, 3), (.if_icmp .ge 23, 3), (.aload_n 0, 1), (.getfield 68, 3), (.sipush 160, 3), (.iload_n 1, 1), (.imul, 1), (.iload 4, 2), (.iadd, 1), (.lconst 0, 1), (.lastore, 1), (.iinc 4 1, 3), (.goto (-25), 3), (.iconst 1, 1), (.ireturn, 1)] := zdcA_ok (by decide +kernel)
theorem dX8_row_81 : decode cX8_row 81 = .ok (.sipush 160, 3) := dX8_row_r81.1
theorem dX8_row_84 : decode cX8_row 84 = .ok (.if_icmp .ge 23, 3) := dX8_row_r81.2.1
theorem dX8_row_87 : decode cX8_row 87 = .ok (.aload_n 0, 1) := dX8_row_r81.2.2.1
theorem dX8_row_88 : decode cX8_row 88 = .ok (.getfield 68, 3) := dX8_row_r81.2.2.2.1
theorem dX8_row_91 : decode cX8_row 91 = .ok (.sipush 160, 3) := dX8_row_r81.2.2.2.2.1
theorem dX8_row_94 : decode cX8_row 94 = .ok (.iload_n 1, 1) := dX8_row_r81.2.2.2.2.2.1
theorem dX8_row_95 : decode cX8_row 95 = .ok (.imul, 1) := dX8_row_r81.2.2.2.2.2.2.1
theorem dX8_row_96 : decode cX8_row 96 = .ok (.iload 4, 2) := dX8_row_r81.2.2.2.2.2.2.2.1
theorem dX8_row_98 : decode cX8_row 98 = .ok (.iadd, 1) := dX8_row_r81.2.2.2.2.2.2.2.2.1
theorem dX8_row_99 : decode cX8_row 99 = .ok (.lconst 0, 1) := dX8_row_r81.2.2.2.2.2.2.2.2.2.1
theorem dX8_row_100 : decode cX8_row 100 = .ok (.lastore, 1) := dX8_row_r81.2.2.2.2.2.2.2.2.2.2.1
theorem dX8_row_101 : decode cX8_row 101 = .ok (.iinc 4 1, 3) := dX8_row_r81.2.2.2.2.2.2.2.2.2.2.2.1
theorem dX8_row_104 : decode cX8_row 104 = .ok (.goto (-25), 3) := dX8_row_r81.2.2.2.2.2.2.2.2.2.2.2.2.1
theorem dX8_row_107 : decode cX8_row 107 = .ok (.iconst 1, 1) := dX8_row_r81.2.2.2.2.2.2.2.2.2.2.2.2.2.1
theorem dX8_row_108 : decode cX8_row 108 = .ok (.ireturn, 1) := dX8_row_r81.2.2.2.2.2.2.2.2.2.2.2.2.2.2.1
def wq_130_79 (v1 : Int32) (v2 : Int32) (v3 : Int32) (Q : Int32 → zf_Me → Prop) : Nat → Int32 → zf_Me → Prop
  | 0, _, _ => False
  | n + 1, v4, m => ((v4.toInt ≥ 160 → Q 1 m) ∧ (v4.toInt < 160 → ((0 ≤ (Int32.toInt ((160 * v1) + v4)) ∧ (Int32.toInt ((160 * v1) + v4)) < (1280 : Int)) ∧ ∀ m11, m11 = zf_ul m 74 (Int32.toInt ((160 * v1) + v4)).toNat 0 → wq_130_79 v1 v2 v3 Q n (v4 + 1) m11)))
theorem zq_130_79 {d : Nat} (hd : 1 ≤ d) {v1 : Int32} {v2 : Int32} {v3 : Int32} {Q : Int32 → zf_Me → Prop} : ∀ (n : Nat) (v4 : Int32) (m : zf_Me), wq_130_79 v1 v2 v3 Q n v4 m → zf_W none 0 0 d zt_130 79 [some (.inr (.inr (1, 63))), some (.inl v1), none, none, some (.inl v4)] [] m (zf_I Q) := by
  intro n
  induction n with
  | zero =>
    intro v4 m h
    exact h.elim
  | succ n ih =>
    intro v4 m h
    unfold wq_130_79 at h
    refine zf_ld (pc' := 81) (v := .inl v4) dX8_row_79 rfl (fun _ _ _ => rfl) rfl rfl rfl ?_
    refine zf_si (v := 160) (pc' := 84) dX8_row_81 rfl rfl ?_
    refine zf_icmp_ge (tgt := 107) (pc' := 87) dX8_row_84 rfl rfl (fun g => ?_) (fun g => ?_)
    · replace h := h.1 g
      refine zf_ic (v := 1) (pc' := 108) dX8_row_107 rfl rfl ?_
      exact zf_ri dX8_row_108 rfl h
    · replace h := h.2 g
      refine zf_ld (pc' := 88) (v := .inr (.inr (1, 63))) dX8_row_87 rfl (fun _ _ _ => rfl) rfl rfl rfl ?_
      refine zf_gfr (pc' := 91) (b := 74) dX8_row_88 rfl rfl (by decide) rfl rfl ?_
      refine zf_si (v := 160) (pc' := 94) dX8_row_91 rfl rfl ?_
      refine zf_ld (pc' := 95) (v := .inl v1) dX8_row_94 rfl (fun _ _ _ => rfl) rfl rfl rfl ?_
      refine zf_in (pc' := 96) (S' := [.inl (160 * v1), .inr (.inr (1, 74))]) dX8_row_95 rfl (fun _ _ _ => rfl) ?_
      refine zf_ld (pc' := 98) (v := .inl v4) dX8_row_96 rfl (fun _ _ _ => rfl) rfl rfl rfl ?_
      refine zf_in (pc' := 99) (S' := [.inl ((160 * v1) + v4), .inr (.inr (1, 74))]) dX8_row_98 rfl (fun _ _ _ => rfl) ?_
      refine zf_in (pc' := 100) (S' := [.inr (.inl 0), .inl ((160 * v1) + v4), .inr (.inr (1, 74))]) dX8_row_99 rfl (fun _ _ _ => rfl) ?_
      refine zf_las (pc' := 101) dX8_row_100 rfl (⟨by decide, rfl⟩ : zf_larr 74 1280).1 (⟨by decide, rfl⟩ : zf_larr 74 1280).2 h.1 rfl (fun m11 e12 => ?_)
      replace h := h.2 m11 e12
      refine zf_ii (y := (v4 + 1)) (L2 := [some (.inr (.inr (1, 63))), some (.inl v1), none, none, some (.inl (v4 + 1))]) (pc' := 104) dX8_row_101 rfl rfl rfl rfl rfl ?_
      refine zf_goto (tgt := 79) dX8_row_104 rfl ?_
      exact zf_lo (ih _ _ h) ⟨rfl, rfl, rfl, trivial⟩
def wp_130 (v1 : Int32) (v2 : Int32) (v3 : Int32) (m : zf_Me) (Q : Int32 → zf_Me → Prop) : Prop := wp_127 v1 m (fun b1 m2 => ((b1 = true → ((v3.toInt ≥ 0 → ((v2.toInt < 0 → wp_125 (-6) m2 (fun x3 m4 => Q x3 m4)) ∧ (v2.toInt ≥ 0 → ((v2.toInt ≤ 3 → ((v3.toInt ≤ 160 → ((0 ≤ (Int32.toInt v1) ∧ (Int32.toInt v1) < (8 : Int)) ∧ ∀ m5, m5 = zf_u m2 70 (Int32.toInt v1).toNat 1 → ((0 ≤ (Int32.toInt v1) ∧ (Int32.toInt v1) < (8 : Int)) ∧ ∀ m7, m7 = zf_u m5 71 (Int32.toInt v1).toNat v2 → ((0 ≤ (Int32.toInt v1) ∧ (Int32.toInt v1) < (8 : Int)) ∧ ∀ m9, m9 = zf_u m7 72 (Int32.toInt v1).toNat v3 → (∃ n79, wq_130_79 v1 v2 v3 Q n79 0 m9))))) ∧ (v3.toInt > 160 → wp_125 (-7) m2 (fun x13 m14 => Q x13 m14)))) ∧ (v2.toInt > 3 → wp_125 (-6) m2 (fun x15 m16 => Q x15 m16)))))) ∧ (v3.toInt < 0 → wp_125 (-4) m2 (fun x17 m18 => Q x17 m18)))) ∧ (b1 = false → wp_125 (-1) m2 (fun x19 m20 => Q x19 m20))))
theorem zr_130 {d : Nat} (hd : 1 ≤ d) {v1 : Int32} {v2 : Int32} {v3 : Int32} {Q : Int32 → zf_Me → Prop} {m : zf_Me} (h : wp_130 v1 v2 v3 m Q) : zf_M d 130 [.inr (.inr (1, 63)), .inl v1, .inl v2, .inl v3] m (zf_I Q) := by
  obtain ⟨e, rfl⟩ : ∃ z, d = z + 1 := ⟨d - 1, by omega⟩
  unfold wp_130 at h
  refine zf_M_of (Nat.le_of_ble_eq_true rfl) zm_130 (L := [some (.inr (.inr (1, 63))), some (.inl v1), some (.inl v2), some (.inl v3), none]) rfl ?_
  refine zf_ld (pc' := 1) (v := .inr (.inr (1, 63))) dX8_row_0 rfl (fun _ _ _ => rfl) rfl rfl rfl ?_
  refine zf_ld (pc' := 2) (v := .inl v1) dX8_row_1 rfl (fun _ _ _ => rfl) rfl rfl rfl ?_
  refine zf_iv (k := 127) (pc' := 5) (r := []) dX8_row_2 rfl rfl rfl rfl (by decide) rfl rfl rfl (zr_127 (by omega) h) (zf_kB (fun b1 m2 h => ?_))
  refine zf_ib_ne (tgt := 14) (pc' := 8) dX8_row_5 rfl rfl (fun g => ?_) (fun g => ?_)
  · replace h := h.1 g
    refine zf_ld (pc' := 15) (v := .inl v3) dX8_row_14 rfl (fun _ _ _ => rfl) rfl rfl rfl ?_
    refine zf_if_ge (tgt := 25) (pc' := 18) dX8_row_15 rfl rfl (fun g => ?_) (fun g => ?_)
    · replace h := h.1 g
      refine zf_ld (pc' := 26) (v := .inl v2) dX8_row_25 rfl (fun _ _ _ => rfl) rfl rfl rfl ?_
      refine zf_if_lt (tgt := 34) (pc' := 29) dX8_row_26 rfl rfl (fun g => ?_) (fun g => ?_)
      · replace h := h.1 g
        refine zf_ld (pc' := 35) (v := .inr (.inr (1, 63))) dX8_row_34 rfl (fun _ _ _ => rfl) rfl rfl rfl ?_
        refine zf_bi (v := (-6)) (pc' := 37) dX8_row_35 rfl rfl ?_
        refine zf_iv (k := 125) (pc' := 40) (r := []) dX8_row_37 rfl rfl rfl rfl (by decide) rfl rfl rfl (zr_125 (by omega) h) (zf_kI (fun x3 m4 h => ?_))
        exact zf_ri dX8_row_40 rfl h
      · replace h := h.2 g
        refine zf_ld (pc' := 30) (v := .inl v2) dX8_row_29 rfl (fun _ _ _ => rfl) rfl rfl rfl ?_
        refine zf_ic (v := 3) (pc' := 31) dX8_row_30 rfl rfl ?_
        refine zf_icmp_le (tgt := 41) (pc' := 34) dX8_row_31 rfl rfl (fun g => ?_) (fun g => ?_)
        · replace h := h.1 g
          refine zf_ld (pc' := 42) (v := .inl v3) dX8_row_41 rfl (fun _ _ _ => rfl) rfl rfl rfl ?_
          refine zf_si (v := 160) (pc' := 45) dX8_row_42 rfl rfl ?_
          refine zf_icmp_le (tgt := 55) (pc' := 48) dX8_row_45 rfl rfl (fun g => ?_) (fun g => ?_)
          · replace h := h.1 g
            refine zf_ld (pc' := 56) (v := .inr (.inr (1, 63))) dX8_row_55 rfl (fun _ _ _ => rfl) rfl rfl rfl ?_
            refine zf_gfr (pc' := 59) (b := 70) dX8_row_56 rfl rfl (by decide) rfl rfl ?_
            refine zf_ld (pc' := 60) (v := .inl v1) dX8_row_59 rfl (fun _ _ _ => rfl) rfl rfl rfl ?_
            refine zf_ic (v := 1) (pc' := 61) dX8_row_60 rfl rfl ?_
            refine zf_ias (pc' := 62) dX8_row_61 rfl (⟨by decide, rfl⟩ : zf_arr 70 8).1 (⟨by decide, rfl⟩ : zf_arr 70 8).2 h.1 rfl (fun m5 e6 => ?_)
            replace h := h.2 m5 e6
            refine zf_ld (pc' := 63) (v := .inr (.inr (1, 63))) dX8_row_62 rfl (fun _ _ _ => rfl) rfl rfl rfl ?_
            refine zf_gfr (pc' := 66) (b := 71) dX8_row_63 rfl rfl (by decide) rfl rfl ?_
            refine zf_ld (pc' := 67) (v := .inl v1) dX8_row_66 rfl (fun _ _ _ => rfl) rfl rfl rfl ?_
            refine zf_ld (pc' := 68) (v := .inl v2) dX8_row_67 rfl (fun _ _ _ => rfl) rfl rfl rfl ?_
            refine zf_ias (pc' := 69) dX8_row_68 rfl (⟨by decide, rfl⟩ : zf_arr 71 8).1 (⟨by decide, rfl⟩ : zf_arr 71 8).2 h.1 rfl (fun m7 e8 => ?_)
            replace h := h.2 m7 e8
            refine zf_ld (pc' := 70) (v := .inr (.inr (1, 63))) dX8_row_69 rfl (fun _ _ _ => rfl) rfl rfl rfl ?_
            refine zf_gfr (pc' := 73) (b := 72) dX8_row_70 rfl rfl (by decide) rfl rfl ?_
            refine zf_ld (pc' := 74) (v := .inl v1) dX8_row_73 rfl (fun _ _ _ => rfl) rfl rfl rfl ?_
            refine zf_ld (pc' := 75) (v := .inl v3) dX8_row_74 rfl (fun _ _ _ => rfl) rfl rfl rfl ?_
            refine zf_ias (pc' := 76) dX8_row_75 rfl (⟨by decide, rfl⟩ : zf_arr 72 8).1 (⟨by decide, rfl⟩ : zf_arr 72 8).2 h.1 rfl (fun m9 e10 => ?_)
            replace h := h.2 m9 e10
            refine zf_ic (v := 0) (pc' := 77) dX8_row_76 rfl rfl ?_
            refine zf_st (pc' := 79) (L2 := [some (.inr (.inr (1, 63))), some (.inl v1), some (.inl v2), some (.inl v3), some (.inl 0)]) dX8_row_77 rfl (fun _ _ _ => rfl) rfl rfl rfl rfl rfl rfl ?_
            obtain ⟨n79, h⟩ := h
            exact zf_lo (zq_130_79 (by omega) n79 _ _ h) ⟨rfl, rfl, rfl, trivial⟩
          · replace h := h.2 g
            refine zf_ld (pc' := 49) (v := .inr (.inr (1, 63))) dX8_row_48 rfl (fun _ _ _ => rfl) rfl rfl rfl ?_
            refine zf_bi (v := (-7)) (pc' := 51) dX8_row_49 rfl rfl ?_
            refine zf_iv (k := 125) (pc' := 54) (r := []) dX8_row_51 rfl rfl rfl rfl (by decide) rfl rfl rfl (zr_125 (by omega) h) (zf_kI (fun x13 m14 h => ?_))
            exact zf_ri dX8_row_54 rfl h
        · replace h := h.2 g
          refine zf_ld (pc' := 35) (v := .inr (.inr (1, 63))) dX8_row_34 rfl (fun _ _ _ => rfl) rfl rfl rfl ?_
          refine zf_bi (v := (-6)) (pc' := 37) dX8_row_35 rfl rfl ?_
          refine zf_iv (k := 125) (pc' := 40) (r := []) dX8_row_37 rfl rfl rfl rfl (by decide) rfl rfl rfl (zr_125 (by omega) h) (zf_kI (fun x15 m16 h => ?_))
          exact zf_ri dX8_row_40 rfl h
    · replace h := h.2 g
      refine zf_ld (pc' := 19) (v := .inr (.inr (1, 63))) dX8_row_18 rfl (fun _ _ _ => rfl) rfl rfl rfl ?_
      refine zf_bi (v := (-4)) (pc' := 21) dX8_row_19 rfl rfl ?_
      refine zf_iv (k := 125) (pc' := 24) (r := []) dX8_row_21 rfl rfl rfl rfl (by decide) rfl rfl rfl (zr_125 (by omega) h) (zf_kI (fun x17 m18 h => ?_))
      exact zf_ri dX8_row_24 rfl h
  · replace h := h.2 g
    refine zf_ld (pc' := 9) (v := .inr (.inr (1, 63))) dX8_row_8 rfl (fun _ _ _ => rfl) rfl rfl rfl ?_
    refine zf_ic (v := (-1)) (pc' := 10) dX8_row_9 rfl rfl ?_
    refine zf_iv (k := 125) (pc' := 13) (r := []) dX8_row_10 rfl rfl rfl rfl (by decide) rfl rfl rfl (zr_125 (by omega) h) (zf_kI (fun x19 m20 h => ?_))
    exact zf_ri dX8_row_13 rfl h
