/-! part 44: methods 201..: laid by wip/flat/dec.py -/
def zt_201 : zx_MT := (8, yX8_seed, cX8_seed, 3, (some FieldType.int), 1, 0)
theorem zm_201 : zx_m 201 = zt_201 := rfl
theorem dX8_seed_r0 : zdcP cX8_seed 0 [(.aload_n 0, 1), (.getfield 31, 3), (.istore_n 2, 1), (.aload_n 0, 1), (.iload_n 1, 1), (.putfield 31, 3), (.iload_n 2, 1), (.ireturn, 1)] := zdcA_ok (by decide +kernel)
theorem dX8_seed_0 : decode cX8_seed 0 = .ok (.aload_n 0, 1) := dX8_seed_r0.1
theorem dX8_seed_1 : decode cX8_seed 1 = .ok (.getfield 31, 3) := dX8_seed_r0.2.1
theorem dX8_seed_4 : decode cX8_seed 4 = .ok (.istore_n 2, 1) := dX8_seed_r0.2.2.1
theorem dX8_seed_5 : decode cX8_seed 5 = .ok (.aload_n 0, 1) := dX8_seed_r0.2.2.2.1
theorem dX8_seed_6 : decode cX8_seed 6 = .ok (.iload_n 1, 1) := dX8_seed_r0.2.2.2.2.1
theorem dX8_seed_7 : decode cX8_seed 7 = .ok (.putfield 31, 3) := dX8_seed_r0.2.2.2.2.2.1
theorem dX8_seed_10 : decode cX8_seed 10 = .ok (.iload_n 2, 1) := dX8_seed_r0.2.2.2.2.2.2.1
theorem dX8_seed_11 : decode cX8_seed 11 = .ok (.ireturn, 1) := dX8_seed_r0.2.2.2.2.2.2.2.1
def wp_201 (v1 : Int32) (m : zf_Me) (Q : Int32 → zf_Me → Prop) : Prop := (∀ m1, m1 = zf_u m 63 12 v1 → Q (m.1 63 12) m1)
theorem zr_201 {d : Nat} (hd : 0 ≤ d) {v1 : Int32} {Q : Int32 → zf_Me → Prop} {m : zf_Me} (h : wp_201 v1 m Q) : zf_M d 201 [.inr (.inr (1, 63)), .inl v1] m (zf_I Q) := by
  unfold wp_201 at h
  refine zf_M_of (Nat.le_of_ble_eq_true rfl) zm_201 (L := [some (.inr (.inr (1, 63))), some (.inl v1), none]) rfl ?_
  refine zf_ld (pc' := 1) (v := .inr (.inr (1, 63))) dX8_seed_0 rfl (fun _ _ _ => rfl) rfl rfl rfl ?_
  refine zf_gfi (pc' := 4) dX8_seed_1 rfl rfl (by decide) rfl rfl ?_
  refine zf_st (pc' := 5) (L2 := [some (.inr (.inr (1, 63))), some (.inl v1), some (.inl (m.1 63 12))]) dX8_seed_4 rfl (fun _ _ _ => rfl) rfl rfl rfl rfl rfl rfl ?_
  refine zf_ld (pc' := 6) (v := .inr (.inr (1, 63))) dX8_seed_5 rfl (fun _ _ _ => rfl) rfl rfl rfl ?_
  refine zf_ld (pc' := 7) (v := .inl v1) dX8_seed_6 rfl (fun _ _ _ => rfl) rfl rfl rfl ?_
  refine zf_pf (pc' := 10) dX8_seed_7 rfl rfl (by decide) rfl rfl rfl (fun m1 e2 => ?_)
  replace h := h m1 e2
  refine zf_ld (pc' := 11) (v := .inl (m.1 63 12)) dX8_seed_10 rfl (fun _ _ _ => rfl) rfl rfl rfl ?_
  exact zf_ri dX8_seed_11 rfl h
def zt_202 : zx_MT := (8, yX8_body, cX8_body, 2, none, 1, 0)
theorem zm_202 : zx_m 202 = zt_202 := rfl
theorem dX8_body_r0 : zdcP cX8_body 0 [(.aload_n 0, 1), (.getfield 303, 3), (.bipush 20, 2), (.if_icmp .ge 13, 3), (.aload_n 0, 1), (.getfield 102, 3), (.aload_n 0, 1), (.getfield 303, 3), (.iload_n 1, 1), (.iastore, 1), (.aload_n 0, 1), (.dup, 1), (.getfield 303, 3), (.iconst 1, 1), (.iadd, 1), (.putfield 303, 3)] := zdcA_ok (by decide +kernel)
theorem dX8_body_0 : decode cX8_body 0 = .ok (.aload_n 0, 1) := dX8_body_r0.1
theorem dX8_body_1 : decode cX8_body 1 = .ok (.getfield 303, 3) := dX8_body_r0.2.1
theorem dX8_body_4 : decode cX8_body 4 = .ok (.bipush 20, 2) := dX8_body_r0.2.2.1
theorem dX8_body_6 : decode cX8_body 6 = .ok (.if_icmp .ge 13, 3) := dX8_body_r0.2.2.2.1
theorem dX8_body_9 : decode cX8_body 9 = .ok (.aload_n 0, 1) := dX8_body_r0.2.2.2.2.1
theorem dX8_body_10 : decode cX8_body 10 = .ok (.getfield 102, 3) := dX8_body_r0.2.2.2.2.2.1
theorem dX8_body_13 : decode cX8_body 13 = .ok (.aload_n 0, 1) := dX8_body_r0.2.2.2.2.2.2.1
theorem dX8_body_14 : decode cX8_body 14 = .ok (.getfield 303, 3) := dX8_body_r0.2.2.2.2.2.2.2.1
theorem dX8_body_17 : decode cX8_body 17 = .ok (.iload_n 1, 1) := dX8_body_r0.2.2.2.2.2.2.2.2.1
theorem dX8_body_18 : decode cX8_body 18 = .ok (.iastore, 1) := dX8_body_r0.2.2.2.2.2.2.2.2.2.1
theorem dX8_body_19 : decode cX8_body 19 = .ok (.aload_n 0, 1) := dX8_body_r0.2.2.2.2.2.2.2.2.2.2.1
theorem dX8_body_20 : decode cX8_body 20 = .ok (.dup, 1) := dX8_body_r0.2.2.2.2.2.2.2.2.2.2.2.1
theorem dX8_body_21 : decode cX8_body 21 = .ok (.getfield 303, 3) := dX8_body_r0.2.2.2.2.2.2.2.2.2.2.2.2.1
theorem dX8_body_24 : decode cX8_body 24 = .ok (.iconst 1, 1) := dX8_body_r0.2.2.2.2.2.2.2.2.2.2.2.2.2.1
theorem dX8_body_25 : decode cX8_body 25 = .ok (.iadd, 1) := dX8_body_r0.2.2.2.2.2.2.2.2.2.2.2.2.2.2.1
theorem dX8_body_26 : decode cX8_body 26 = .ok (.putfield 303, 3) := dX8_body_r0.2.2.2.2.2.2.2.2.2.2.2.2.2.2.2.1
theorem dX8_body_29 : decode cX8_body 29 = .ok (.return_, 1) := zdc_ok (by decide +kernel)
def wq_202_19 (v1 : Int32) (m : zf_Me) (Q : zf_Me → Prop) : Prop := (∀ m1, m1 = zf_u m 63 51 ((m.1 63 51) + 1) → Q m1)
theorem zq_202_19 {d : Nat} (hd : 0 ≤ d) {v1 : Int32} {Q : zf_Me → Prop} {m : zf_Me} (h : wq_202_19 v1 m Q) : zf_W none 0 0 d zt_202 19 [some (.inr (.inr (1, 63))), none] [] m (zf_O Q) := by
  unfold wq_202_19 at h
  refine zf_ld (pc' := 20) (v := .inr (.inr (1, 63))) dX8_body_19 rfl (fun _ _ _ => rfl) rfl rfl rfl ?_
  refine zf_in (pc' := 21) (S' := [.inr (.inr (1, 63)), .inr (.inr (1, 63))]) dX8_body_20 rfl (fun _ _ _ => rfl) ?_
  refine zf_gfi (pc' := 24) dX8_body_21 rfl rfl (by decide) rfl rfl ?_
  refine zf_ic (v := 1) (pc' := 25) dX8_body_24 rfl rfl ?_
  refine zf_in (pc' := 26) (S' := [.inl ((m.1 63 51) + 1), .inr (.inr (1, 63))]) dX8_body_25 rfl (fun _ _ _ => rfl) ?_
  refine zf_pf (pc' := 29) dX8_body_26 rfl rfl (by decide) rfl rfl rfl (fun m1 e2 => ?_)
  replace h := h m1 e2
  exact zf_rv dX8_body_29 rfl h
def wp_202 (v1 : Int32) (m : zf_Me) (Q : zf_Me → Prop) : Prop := ((((m.1 63 51)).toInt ≥ 20 → wq_202_19 v1 m Q) ∧ (((m.1 63 51)).toInt < 20 → ((0 ≤ (Int32.toInt (m.1 63 51)) ∧ (Int32.toInt (m.1 63 51)) < (20 : Int)) ∧ ∀ m3, m3 = zf_u m 85 (Int32.toInt (m.1 63 51)).toNat v1 → wq_202_19 v1 m3 Q)))
theorem zr_202 {d : Nat} (hd : 0 ≤ d) {v1 : Int32} {Q : zf_Me → Prop} {m : zf_Me} (h : wp_202 v1 m Q) : zf_M d 202 [.inr (.inr (1, 63)), .inl v1] m (zf_O Q) := by
  unfold wp_202 at h
  refine zf_M_of (Nat.le_of_ble_eq_true rfl) zm_202 (L := [some (.inr (.inr (1, 63))), some (.inl v1)]) rfl ?_
  refine zf_ld (pc' := 1) (v := .inr (.inr (1, 63))) dX8_body_0 rfl (fun _ _ _ => rfl) rfl rfl rfl ?_
  refine zf_gfi (pc' := 4) dX8_body_1 rfl rfl (by decide) rfl rfl ?_
  refine zf_bi (v := 20) (pc' := 6) dX8_body_4 rfl rfl ?_
  refine zf_icmp_ge (tgt := 19) (pc' := 9) dX8_body_6 rfl rfl (fun g => ?_) (fun g => ?_)
  · replace h := h.1 g
    exact zf_lo (zq_202_19 (by omega) h) ⟨rfl, trivial⟩
  · replace h := h.2 g
    refine zf_ld (pc' := 10) (v := .inr (.inr (1, 63))) dX8_body_9 rfl (fun _ _ _ => rfl) rfl rfl rfl ?_
    refine zf_gfr (pc' := 13) (b := 85) dX8_body_10 rfl rfl (by decide) rfl rfl ?_
    refine zf_ld (pc' := 14) (v := .inr (.inr (1, 63))) dX8_body_13 rfl (fun _ _ _ => rfl) rfl rfl rfl ?_
    refine zf_gfi (pc' := 17) dX8_body_14 rfl rfl (by decide) rfl rfl ?_
    refine zf_ld (pc' := 18) (v := .inl v1) dX8_body_17 rfl (fun _ _ _ => rfl) rfl rfl rfl ?_
    refine zf_ias (pc' := 19) dX8_body_18 rfl (⟨by decide, rfl⟩ : zf_arr 85 20).1 (⟨by decide, rfl⟩ : zf_arr 85 20).2 h.1 rfl (fun m3 e4 => ?_)
    replace h := h.2 m3 e4
    exact zf_lo (zq_202_19 (by omega) h) ⟨rfl, trivial⟩
def zt_203 : zx_MT := (8, yX8_lifting, cX8_lifting, 5, (some FieldType.int), 2, 0)
theorem zm_203 : zx_m 203 = zt_203 := rfl
theorem dX8_lifting_r0 : zdcP cX8_lifting 0 [(.aload_n 0, 1), (.getfield 47, 3), (.iload_n 1, 1), (.iaload, 1), (.istore_n 3, 1), (.iload_n 3, 1), (.bipush 6, 2), (.if_icmp .ne 9, 3), (.aload_n 0, 1), (.bipush 70, 2), (.invokevirtual 306, 3), (.iload_n 3, 1), (.iconst 4, 1), (.if_icmp .eq 9, 3), (.iload_n 3, 1), (.bipush 6, 2)] := zdcA_ok (by decide +kernel)
theorem dX8_lifting_0 : decode cX8_lifting 0 = .ok (.aload_n 0, 1) := dX8_lifting_r0.1
theorem dX8_lifting_1 : decode cX8_lifting 1 = .ok (.getfield 47, 3) := dX8_lifting_r0.2.1
theorem dX8_lifting_4 : decode cX8_lifting 4 = .ok (.iload_n 1, 1) := dX8_lifting_r0.2.2.1
theorem dX8_lifting_5 : decode cX8_lifting 5 = .ok (.iaload, 1) := dX8_lifting_r0.2.2.2.1
theorem dX8_lifting_6 : decode cX8_lifting 6 = .ok (.istore_n 3, 1) := dX8_lifting_r0.2.2.2.2.1
theorem dX8_lifting_7 : decode cX8_lifting 7 = .ok (.iload_n 3, 1) := dX8_lifting_r0.2.2.2.2.2.1
theorem dX8_lifting_8 : decode cX8_lifting 8 = .ok (.bipush 6, 2) := dX8_lifting_r0.2.2.2.2.2.2.1
theorem dX8_lifting_10 : decode cX8_lifting 10 = .ok (.if_icmp .ne 9, 3) := dX8_lifting_r0.2.2.2.2.2.2.2.1
theorem dX8_lifting_13 : decode cX8_lifting 13 = .ok (.aload_n 0, 1) := dX8_lifting_r0.2.2.2.2.2.2.2.2.1
theorem dX8_lifting_14 : decode cX8_lifting 14 = .ok (.bipush 70, 2) := dX8_lifting_r0.2.2.2.2.2.2.2.2.2.1
theorem dX8_lifting_16 : decode cX8_lifting 16 = .ok (.invokevirtual 306, 3) := dX8_lifting_r0.2.2.2.2.2.2.2.2.2.2.1
theorem dX8_lifting_19 : decode cX8_lifting 19 = .ok (.iload_n 3, 1) := dX8_lifting_r0.2.2.2.2.2.2.2.2.2.2.2.1
theorem dX8_lifting_20 : decode cX8_lifting 20 = .ok (.iconst 4, 1) := dX8_lifting_r0.2.2.2.2.2.2.2.2.2.2.2.2.1
theorem dX8_lifting_21 : decode cX8_lifting 21 = .ok (.if_icmp .eq 9, 3) := dX8_lifting_r0.2.2.2.2.2.2.2.2.2.2.2.2.2.1
theorem dX8_lifting_24 : decode cX8_lifting 24 = .ok (.iload_n 3, 1) := dX8_lifting_r0.2.2.2.2.2.2.2.2.2.2.2.2.2.2.1
theorem dX8_lifting_25 : decode cX8_lifting 25 = .ok (.bipush 6, 2) := dX8_lifting_r0.2.2.2.2.2.2.2.2.2.2.2.2.2.2.2.1
theorem dX8_lifting_r27 : zdcP cX8_lifting 27 [(.if_icmp .ne 9, 3), (.aload_n 0, 1), (.bipush 51, 2), (.invokevirtual 306, 3), (.iload_n 3, 1), (.iconst 1, 1), (.if_icmp .eq 8, 3), (.iload_n 3, 1), (.iconst 3, 1), (.if_icmp .ne 9, 3), (.aload_n 0, 1), (.bipush 20, 2), (.invokevirtual 306, 3), (.aload_n 0, 1), (.bipush 10, 2), (.invokevirtual 306, 3)] := zdcA_ok (by decide +kernel)
theorem dX8_lifting_27 : decode cX8_lifting 27 = .ok (.if_icmp .ne 9, 3) := dX8_lifting_r27.1
theorem dX8_lifting_30 : decode cX8_lifting 30 = .ok (.aload_n 0, 1) := dX8_lifting_r27.2.1
theorem dX8_lifting_31 : decode cX8_lifting 31 = .ok (.bipush 51, 2) := dX8_lifting_r27.2.2.1
theorem dX8_lifting_33 : decode cX8_lifting 33 = .ok (.invokevirtual 306, 3) := dX8_lifting_r27.2.2.2.1
theorem dX8_lifting_36 : decode cX8_lifting 36 = .ok (.iload_n 3, 1) := dX8_lifting_r27.2.2.2.2.1
theorem dX8_lifting_37 : decode cX8_lifting 37 = .ok (.iconst 1, 1) := dX8_lifting_r27.2.2.2.2.2.1
theorem dX8_lifting_38 : decode cX8_lifting 38 = .ok (.if_icmp .eq 8, 3) := dX8_lifting_r27.2.2.2.2.2.2.1
theorem dX8_lifting_41 : decode cX8_lifting 41 = .ok (.iload_n 3, 1) := dX8_lifting_r27.2.2.2.2.2.2.2.1
theorem dX8_lifting_42 : decode cX8_lifting 42 = .ok (.iconst 3, 1) := dX8_lifting_r27.2.2.2.2.2.2.2.2.1
theorem dX8_lifting_43 : decode cX8_lifting 43 = .ok (.if_icmp .ne 9, 3) := dX8_lifting_r27.2.2.2.2.2.2.2.2.2.1
theorem dX8_lifting_46 : decode cX8_lifting 46 = .ok (.aload_n 0, 1) := dX8_lifting_r27.2.2.2.2.2.2.2.2.2.2.1
theorem dX8_lifting_47 : decode cX8_lifting 47 = .ok (.bipush 20, 2) := dX8_lifting_r27.2.2.2.2.2.2.2.2.2.2.2.1
theorem dX8_lifting_49 : decode cX8_lifting 49 = .ok (.invokevirtual 306, 3) := dX8_lifting_r27.2.2.2.2.2.2.2.2.2.2.2.2.1
theorem dX8_lifting_52 : decode cX8_lifting 52 = .ok (.aload_n 0, 1) := dX8_lifting_r27.2.2.2.2.2.2.2.2.2.2.2.2.2.1
theorem dX8_lifting_53 : decode cX8_lifting 53 = .ok (.bipush 10, 2) := dX8_lifting_r27.2.2.2.2.2.2.2.2.2.2.2.2.2.2.1
theorem dX8_lifting_55 : decode cX8_lifting 55 = .ok (.invokevirtual 306, 3) := dX8_lifting_r27.2.2.2.2.2.2.2.2.2.2.2.2.2.2.2.1
theorem dX8_lifting_r58 : zdcP cX8_lifting 58 [(.iload_n 2, 1), (.iload_n 1, 1), (.iadd, 1), (.istore 4, 2), (.iload_n 3, 1), (.iconst 1, 1), (.if_icmp .eq 8, 3), (.iload_n 3, 1), (.iconst 3, 1), (.if_icmp .ne 14, 3), (.iload 4, 2), (.aload_n 0, 1), (.getfield 50, 3), (.iload_n 1, 1), (.iaload, 1), (.iadd, 1)] := zdcA_ok (by decide +kernel)
theorem dX8_lifting_58 : decode cX8_lifting 58 = .ok (.iload_n 2, 1) := dX8_lifting_r58.1
theorem dX8_lifting_59 : decode cX8_lifting 59 = .ok (.iload_n 1, 1) := dX8_lifting_r58.2.1
theorem dX8_lifting_60 : decode cX8_lifting 60 = .ok (.iadd, 1) := dX8_lifting_r58.2.2.1
theorem dX8_lifting_61 : decode cX8_lifting 61 = .ok (.istore 4, 2) := dX8_lifting_r58.2.2.2.1
theorem dX8_lifting_63 : decode cX8_lifting 63 = .ok (.iload_n 3, 1) := dX8_lifting_r58.2.2.2.2.1
theorem dX8_lifting_64 : decode cX8_lifting 64 = .ok (.iconst 1, 1) := dX8_lifting_r58.2.2.2.2.2.1
theorem dX8_lifting_65 : decode cX8_lifting 65 = .ok (.if_icmp .eq 8, 3) := dX8_lifting_r58.2.2.2.2.2.2.1
theorem dX8_lifting_68 : decode cX8_lifting 68 = .ok (.iload_n 3, 1) := dX8_lifting_r58.2.2.2.2.2.2.2.1
theorem dX8_lifting_69 : decode cX8_lifting 69 = .ok (.iconst 3, 1) := dX8_lifting_r58.2.2.2.2.2.2.2.2.1
theorem dX8_lifting_70 : decode cX8_lifting 70 = .ok (.if_icmp .ne 14, 3) := dX8_lifting_r58.2.2.2.2.2.2.2.2.2.1
theorem dX8_lifting_73 : decode cX8_lifting 73 = .ok (.iload 4, 2) := dX8_lifting_r58.2.2.2.2.2.2.2.2.2.2.1
theorem dX8_lifting_75 : decode cX8_lifting 75 = .ok (.aload_n 0, 1) := dX8_lifting_r58.2.2.2.2.2.2.2.2.2.2.2.1
theorem dX8_lifting_76 : decode cX8_lifting 76 = .ok (.getfield 50, 3) := dX8_lifting_r58.2.2.2.2.2.2.2.2.2.2.2.2.1
theorem dX8_lifting_79 : decode cX8_lifting 79 = .ok (.iload_n 1, 1) := dX8_lifting_r58.2.2.2.2.2.2.2.2.2.2.2.2.2.1
theorem dX8_lifting_80 : decode cX8_lifting 80 = .ok (.iaload, 1) := dX8_lifting_r58.2.2.2.2.2.2.2.2.2.2.2.2.2.2.1
theorem dX8_lifting_81 : decode cX8_lifting 81 = .ok (.iadd, 1) := dX8_lifting_r58.2.2.2.2.2.2.2.2.2.2.2.2.2.2.2.1
theorem dX8_lifting_r82 : zdcP cX8_lifting 82 [(.istore 4, 2), (.iload_n 3, 1), (.iconst 4, 1), (.if_icmp .eq 9, 3), (.iload_n 3, 1), (.bipush 6, 2), (.if_icmp .ne 9, 3), (.iload 4, 2), (.iload_n 1, 1), (.isub, 1), (.istore 4, 2), (.iload_n 3, 1), (.bipush 6, 2), (.if_icmp .ne 10, 3), (.iload 4, 2), (.iconst 2, 1)] := zdcA_ok (by decide +kernel)
theorem dX8_lifting_82 : decode cX8_lifting 82 = .ok (.istore 4, 2) := dX8_lifting_r82.1
theorem dX8_lifting_84 : decode cX8_lifting 84 = .ok (.iload_n 3, 1) := dX8_lifting_r82.2.1
theorem dX8_lifting_85 : decode cX8_lifting 85 = .ok (.iconst 4, 1) := dX8_lifting_r82.2.2.1
theorem dX8_lifting_86 : decode cX8_lifting 86 = .ok (.if_icmp .eq 9, 3) := dX8_lifting_r82.2.2.2.1
theorem dX8_lifting_89 : decode cX8_lifting 89 = .ok (.iload_n 3, 1) := dX8_lifting_r82.2.2.2.2.1
theorem dX8_lifting_90 : decode cX8_lifting 90 = .ok (.bipush 6, 2) := dX8_lifting_r82.2.2.2.2.2.1
theorem dX8_lifting_92 : decode cX8_lifting 92 = .ok (.if_icmp .ne 9, 3) := dX8_lifting_r82.2.2.2.2.2.2.1
theorem dX8_lifting_95 : decode cX8_lifting 95 = .ok (.iload 4, 2) := dX8_lifting_r82.2.2.2.2.2.2.2.1
theorem dX8_lifting_97 : decode cX8_lifting 97 = .ok (.iload_n 1, 1) := dX8_lifting_r82.2.2.2.2.2.2.2.2.1
theorem dX8_lifting_98 : decode cX8_lifting 98 = .ok (.isub, 1) := dX8_lifting_r82.2.2.2.2.2.2.2.2.2.1
theorem dX8_lifting_99 : decode cX8_lifting 99 = .ok (.istore 4, 2) := dX8_lifting_r82.2.2.2.2.2.2.2.2.2.2.1
theorem dX8_lifting_101 : decode cX8_lifting 101 = .ok (.iload_n 3, 1) := dX8_lifting_r82.2.2.2.2.2.2.2.2.2.2.2.1
theorem dX8_lifting_102 : decode cX8_lifting 102 = .ok (.bipush 6, 2) := dX8_lifting_r82.2.2.2.2.2.2.2.2.2.2.2.2.1
theorem dX8_lifting_104 : decode cX8_lifting 104 = .ok (.if_icmp .ne 10, 3) := dX8_lifting_r82.2.2.2.2.2.2.2.2.2.2.2.2.2.1
theorem dX8_lifting_107 : decode cX8_lifting 107 = .ok (.iload 4, 2) := dX8_lifting_r82.2.2.2.2.2.2.2.2.2.2.2.2.2.2.1
theorem dX8_lifting_109 : decode cX8_lifting 109 = .ok (.iconst 2, 1) := dX8_lifting_r82.2.2.2.2.2.2.2.2.2.2.2.2.2.2.2.1
theorem dX8_lifting_r110 : zdcP cX8_lifting 110 [(.imul, 1), (.goto 5, 3), (.iload 4, 2), (.ireturn, 1)] := zdcA_ok (by decide +kernel)
theorem dX8_lifting_110 : decode cX8_lifting 110 = .ok (.imul, 1) := dX8_lifting_r110.1
theorem dX8_lifting_111 : decode cX8_lifting 111 = .ok (.goto 5, 3) := dX8_lifting_r110.2.1
theorem dX8_lifting_114 : decode cX8_lifting 114 = .ok (.iload 4, 2) := dX8_lifting_r110.2.2.1
theorem dX8_lifting_116 : decode cX8_lifting 116 = .ok (.ireturn, 1) := dX8_lifting_r110.2.2.2.1
def wq_203_101 (v1 : Int32) (v2 : Int32) (v3 : Int32) (v4 : Int32) (m : zf_Me) (Q : Int32 → zf_Me → Prop) : Prop := ((¬ v3.toInt = 6 → Q v4 m) ∧ (v3.toInt = 6 → Q (v4 * 2) m))
theorem zq_203_101 {d : Nat} (hd : 1 ≤ d) {v1 : Int32} {v2 : Int32} {Q : Int32 → zf_Me → Prop} {v3 : Int32} {v4 : Int32} {m : zf_Me} (h : wq_203_101 v1 v2 v3 v4 m Q) : zf_W none 0 0 d zt_203 101 [none, none, none, some (.inl v3), some (.inl v4)] [] m (zf_I Q) := by
  unfold wq_203_101 at h
  refine zf_ld (pc' := 102) (v := .inl v3) dX8_lifting_101 rfl (fun _ _ _ => rfl) rfl rfl rfl ?_
  refine zf_bi (v := 6) (pc' := 104) dX8_lifting_102 rfl rfl ?_
  refine zf_icmp_ne (tgt := 114) (pc' := 107) dX8_lifting_104 rfl rfl (fun g => ?_) (fun g => ?_)
  · replace h := h.1 g
    refine zf_ld (pc' := 116) (v := .inl v4) dX8_lifting_114 rfl (fun _ _ _ => rfl) rfl rfl rfl ?_
    exact zf_ri dX8_lifting_116 rfl h
  · replace h := h.2 g
    refine zf_ld (pc' := 109) (v := .inl v4) dX8_lifting_107 rfl (fun _ _ _ => rfl) rfl rfl rfl ?_
    refine zf_ic (v := 2) (pc' := 110) dX8_lifting_109 rfl rfl ?_
    refine zf_in (pc' := 111) (S' := [.inl (v4 * 2)]) dX8_lifting_110 rfl (fun _ _ _ => rfl) ?_
    refine zf_goto (tgt := 116) dX8_lifting_111 rfl ?_
    exact zf_ri dX8_lifting_116 rfl h
def wq_203_95 (v1 : Int32) (v2 : Int32) (v3 : Int32) (v4 : Int32) (m : zf_Me) (Q : Int32 → zf_Me → Prop) : Prop := wq_203_101 v1 v2 v3 (v4 - v1) m Q
theorem zq_203_95 {d : Nat} (hd : 1 ≤ d) {v1 : Int32} {v2 : Int32} {Q : Int32 → zf_Me → Prop} {v3 : Int32} {v4 : Int32} {m : zf_Me} (h : wq_203_95 v1 v2 v3 v4 m Q) : zf_W none 0 0 d zt_203 95 [none, some (.inl v1), none, some (.inl v3), some (.inl v4)] [] m (zf_I Q) := by
  unfold wq_203_95 at h
  refine zf_ld (pc' := 97) (v := .inl v4) dX8_lifting_95 rfl (fun _ _ _ => rfl) rfl rfl rfl ?_
  refine zf_ld (pc' := 98) (v := .inl v1) dX8_lifting_97 rfl (fun _ _ _ => rfl) rfl rfl rfl ?_
  refine zf_in (pc' := 99) (S' := [.inl (v4 - v1)]) dX8_lifting_98 rfl (fun _ _ _ => rfl) ?_
  refine zf_st (pc' := 101) (L2 := [none, some (.inl v1), none, some (.inl v3), some (.inl (v4 - v1))]) dX8_lifting_99 rfl (fun _ _ _ => rfl) rfl rfl rfl rfl rfl rfl ?_
  exact zf_lo (zq_203_101 (by omega) h) ⟨rfl, rfl, trivial⟩
def wq_203_84 (v1 : Int32) (v2 : Int32) (v3 : Int32) (v4 : Int32) (m : zf_Me) (Q : Int32 → zf_Me → Prop) : Prop := ((v3.toInt = 4 → wq_203_95 v1 v2 v3 v4 m Q) ∧ (¬ v3.toInt = 4 → ((¬ v3.toInt = 6 → wq_203_101 v1 v2 v3 v4 m Q) ∧ (v3.toInt = 6 → wq_203_95 v1 v2 v3 v4 m Q))))
theorem zq_203_84 {d : Nat} (hd : 1 ≤ d) {v1 : Int32} {v2 : Int32} {Q : Int32 → zf_Me → Prop} {v3 : Int32} {v4 : Int32} {m : zf_Me} (h : wq_203_84 v1 v2 v3 v4 m Q) : zf_W none 0 0 d zt_203 84 [none, some (.inl v1), none, some (.inl v3), some (.inl v4)] [] m (zf_I Q) := by
  unfold wq_203_84 at h
  refine zf_ld (pc' := 85) (v := .inl v3) dX8_lifting_84 rfl (fun _ _ _ => rfl) rfl rfl rfl ?_
  refine zf_ic (v := 4) (pc' := 86) dX8_lifting_85 rfl rfl ?_
  refine zf_icmp_eq (tgt := 95) (pc' := 89) dX8_lifting_86 rfl rfl (fun g => ?_) (fun g => ?_)
  · replace h := h.1 g
    exact zf_lo (zq_203_95 (by omega) h) ⟨rfl, rfl, rfl, trivial⟩
  · replace h := h.2 g
    refine zf_ld (pc' := 90) (v := .inl v3) dX8_lifting_89 rfl (fun _ _ _ => rfl) rfl rfl rfl ?_
    refine zf_bi (v := 6) (pc' := 92) dX8_lifting_90 rfl rfl ?_
    refine zf_icmp_ne (tgt := 101) (pc' := 95) dX8_lifting_92 rfl rfl (fun g => ?_) (fun g => ?_)
    · replace h := h.1 g
      exact zf_lo (zq_203_101 (by omega) h) ⟨rfl, rfl, trivial⟩
    · replace h := h.2 g
      exact zf_lo (zq_203_95 (by omega) h) ⟨rfl, rfl, rfl, trivial⟩
def wq_203_73 (v1 : Int32) (v2 : Int32) (v3 : Int32) (v4 : Int32) (m : zf_Me) (Q : Int32 → zf_Me → Prop) : Prop := ((0 ≤ (Int32.toInt v1) ∧ (Int32.toInt v1) < (6 : Int)) ∧ wq_203_84 v1 v2 v3 (v4 + (m.1 68 (Int32.toInt v1).toNat)) m Q)
theorem zq_203_73 {d : Nat} (hd : 1 ≤ d) {v1 : Int32} {v2 : Int32} {Q : Int32 → zf_Me → Prop} {v3 : Int32} {v4 : Int32} {m : zf_Me} (h : wq_203_73 v1 v2 v3 v4 m Q) : zf_W none 0 0 d zt_203 73 [some (.inr (.inr (1, 63))), some (.inl v1), none, some (.inl v3), some (.inl v4)] [] m (zf_I Q) := by
  unfold wq_203_73 at h
  refine zf_ld (pc' := 75) (v := .inl v4) dX8_lifting_73 rfl (fun _ _ _ => rfl) rfl rfl rfl ?_
  refine zf_ld (pc' := 76) (v := .inr (.inr (1, 63))) dX8_lifting_75 rfl (fun _ _ _ => rfl) rfl rfl rfl ?_
  refine zf_gfr (pc' := 79) (b := 68) dX8_lifting_76 rfl rfl (by decide) rfl rfl ?_
  refine zf_ld (pc' := 80) (v := .inl v1) dX8_lifting_79 rfl (fun _ _ _ => rfl) rfl rfl rfl ?_
  refine zf_ial (pc' := 81) dX8_lifting_80 rfl (⟨by decide, rfl⟩ : zf_arr 68 6).1 (⟨by decide, rfl⟩ : zf_arr 68 6).2 h.1 rfl ?_
  replace h := h.2
  refine zf_in (pc' := 82) (S' := [.inl (v4 + (m.1 68 (Int32.toInt v1).toNat))]) dX8_lifting_81 rfl (fun _ _ _ => rfl) ?_
  refine zf_st (pc' := 84) (L2 := [some (.inr (.inr (1, 63))), some (.inl v1), none, some (.inl v3), some (.inl (v4 + (m.1 68 (Int32.toInt v1).toNat)))]) dX8_lifting_82 rfl (fun _ _ _ => rfl) rfl rfl rfl rfl rfl rfl ?_
  exact zf_lo (zq_203_84 (by omega) h) ⟨rfl, rfl, rfl, trivial⟩
def wq_203_52 (v1 : Int32) (v2 : Int32) (v3 : Int32) (m : zf_Me) (Q : Int32 → zf_Me → Prop) : Prop := wp_202 10 m (fun m6 => ((v3.toInt = 1 → wq_203_73 v1 v2 v3 (v2 + v1) m6 Q) ∧ (¬ v3.toInt = 1 → ((¬ v3.toInt = 3 → wq_203_84 v1 v2 v3 (v2 + v1) m6 Q) ∧ (v3.toInt = 3 → wq_203_73 v1 v2 v3 (v2 + v1) m6 Q)))))
theorem zq_203_52 {d : Nat} (hd : 1 ≤ d) {v1 : Int32} {v2 : Int32} {Q : Int32 → zf_Me → Prop} {v3 : Int32} {m : zf_Me} (h : wq_203_52 v1 v2 v3 m Q) : zf_W none 0 0 d zt_203 52 [some (.inr (.inr (1, 63))), some (.inl v1), some (.inl v2), some (.inl v3), none] [] m (zf_I Q) := by
  obtain ⟨e, rfl⟩ : ∃ z, d = z + 1 := ⟨d - 1, by omega⟩
  unfold wq_203_52 at h
  refine zf_ld (pc' := 53) (v := .inr (.inr (1, 63))) dX8_lifting_52 rfl (fun _ _ _ => rfl) rfl rfl rfl ?_
  refine zf_bi (v := 10) (pc' := 55) dX8_lifting_53 rfl rfl ?_
  refine zf_iv (k := 202) (pc' := 58) (r := []) dX8_lifting_55 rfl rfl rfl rfl (by decide) rfl rfl rfl (zr_202 (by omega) h) (zf_kO (fun m6 h => ?_))
  refine zf_ld (pc' := 59) (v := .inl v2) dX8_lifting_58 rfl (fun _ _ _ => rfl) rfl rfl rfl ?_
  refine zf_ld (pc' := 60) (v := .inl v1) dX8_lifting_59 rfl (fun _ _ _ => rfl) rfl rfl rfl ?_
  refine zf_in (pc' := 61) (S' := [.inl (v2 + v1)]) dX8_lifting_60 rfl (fun _ _ _ => rfl) ?_
  refine zf_st (pc' := 63) (L2 := [some (.inr (.inr (1, 63))), some (.inl v1), some (.inl v2), some (.inl v3), some (.inl (v2 + v1))]) dX8_lifting_61 rfl (fun _ _ _ => rfl) rfl rfl rfl rfl rfl rfl ?_
  refine zf_ld (pc' := 64) (v := .inl v3) dX8_lifting_63 rfl (fun _ _ _ => rfl) rfl rfl rfl ?_
  refine zf_ic (v := 1) (pc' := 65) dX8_lifting_64 rfl rfl ?_
  refine zf_icmp_eq (tgt := 73) (pc' := 68) dX8_lifting_65 rfl rfl (fun g => ?_) (fun g => ?_)
  · replace h := h.1 g
    exact zf_lo (zq_203_73 (by omega) h) ⟨rfl, rfl, rfl, rfl, trivial⟩
  · replace h := h.2 g
    refine zf_ld (pc' := 69) (v := .inl v3) dX8_lifting_68 rfl (fun _ _ _ => rfl) rfl rfl rfl ?_
    refine zf_ic (v := 3) (pc' := 70) dX8_lifting_69 rfl rfl ?_
    refine zf_icmp_ne (tgt := 84) (pc' := 73) dX8_lifting_70 rfl rfl (fun g => ?_) (fun g => ?_)
    · replace h := h.1 g
      exact zf_lo (zq_203_84 (by omega) h) ⟨rfl, rfl, rfl, trivial⟩
    · replace h := h.2 g
      exact zf_lo (zq_203_73 (by omega) h) ⟨rfl, rfl, rfl, rfl, trivial⟩
def wq_203_46 (v1 : Int32) (v2 : Int32) (v3 : Int32) (m : zf_Me) (Q : Int32 → zf_Me → Prop) : Prop := wp_202 20 m (fun m4 => wq_203_52 v1 v2 v3 m4 Q)
theorem zq_203_46 {d : Nat} (hd : 1 ≤ d) {v1 : Int32} {v2 : Int32} {Q : Int32 → zf_Me → Prop} {v3 : Int32} {m : zf_Me} (h : wq_203_46 v1 v2 v3 m Q) : zf_W none 0 0 d zt_203 46 [some (.inr (.inr (1, 63))), some (.inl v1), some (.inl v2), some (.inl v3), none] [] m (zf_I Q) := by
  obtain ⟨e, rfl⟩ : ∃ z, d = z + 1 := ⟨d - 1, by omega⟩
  unfold wq_203_46 at h
  refine zf_ld (pc' := 47) (v := .inr (.inr (1, 63))) dX8_lifting_46 rfl (fun _ _ _ => rfl) rfl rfl rfl ?_
  refine zf_bi (v := 20) (pc' := 49) dX8_lifting_47 rfl rfl ?_
  refine zf_iv (k := 202) (pc' := 52) (r := []) dX8_lifting_49 rfl rfl rfl rfl (by decide) rfl rfl rfl (zr_202 (by omega) h) (zf_kO (fun m4 h => ?_))
  exact zf_lo (zq_203_52 (by omega) h) ⟨rfl, rfl, rfl, rfl, trivial⟩
def wq_203_36 (v1 : Int32) (v2 : Int32) (v3 : Int32) (m : zf_Me) (Q : Int32 → zf_Me → Prop) : Prop := ((v3.toInt = 1 → wq_203_46 v1 v2 v3 m Q) ∧ (¬ v3.toInt = 1 → ((¬ v3.toInt = 3 → wq_203_52 v1 v2 v3 m Q) ∧ (v3.toInt = 3 → wq_203_46 v1 v2 v3 m Q))))
theorem zq_203_36 {d : Nat} (hd : 1 ≤ d) {v1 : Int32} {v2 : Int32} {Q : Int32 → zf_Me → Prop} {v3 : Int32} {m : zf_Me} (h : wq_203_36 v1 v2 v3 m Q) : zf_W none 0 0 d zt_203 36 [some (.inr (.inr (1, 63))), some (.inl v1), some (.inl v2), some (.inl v3), none] [] m (zf_I Q) := by
  unfold wq_203_36 at h
  refine zf_ld (pc' := 37) (v := .inl v3) dX8_lifting_36 rfl (fun _ _ _ => rfl) rfl rfl rfl ?_
  refine zf_ic (v := 1) (pc' := 38) dX8_lifting_37 rfl rfl ?_
  refine zf_icmp_eq (tgt := 46) (pc' := 41) dX8_lifting_38 rfl rfl (fun g => ?_) (fun g => ?_)
  · replace h := h.1 g
    exact zf_lo (zq_203_46 (by omega) h) ⟨rfl, rfl, rfl, rfl, trivial⟩
  · replace h := h.2 g
    refine zf_ld (pc' := 42) (v := .inl v3) dX8_lifting_41 rfl (fun _ _ _ => rfl) rfl rfl rfl ?_
    refine zf_ic (v := 3) (pc' := 43) dX8_lifting_42 rfl rfl ?_
    refine zf_icmp_ne (tgt := 52) (pc' := 46) dX8_lifting_43 rfl rfl (fun g => ?_) (fun g => ?_)
    · replace h := h.1 g
      exact zf_lo (zq_203_52 (by omega) h) ⟨rfl, rfl, rfl, rfl, trivial⟩
    · replace h := h.2 g
      exact zf_lo (zq_203_46 (by omega) h) ⟨rfl, rfl, rfl, rfl, trivial⟩
def wq_203_30 (v1 : Int32) (v2 : Int32) (v3 : Int32) (m : zf_Me) (Q : Int32 → zf_Me → Prop) : Prop := wp_202 51 m (fun m2 => wq_203_36 v1 v2 v3 m2 Q)
theorem zq_203_30 {d : Nat} (hd : 1 ≤ d) {v1 : Int32} {v2 : Int32} {Q : Int32 → zf_Me → Prop} {v3 : Int32} {m : zf_Me} (h : wq_203_30 v1 v2 v3 m Q) : zf_W none 0 0 d zt_203 30 [some (.inr (.inr (1, 63))), some (.inl v1), some (.inl v2), some (.inl v3), none] [] m (zf_I Q) := by
  obtain ⟨e, rfl⟩ : ∃ z, d = z + 1 := ⟨d - 1, by omega⟩
  unfold wq_203_30 at h
  refine zf_ld (pc' := 31) (v := .inr (.inr (1, 63))) dX8_lifting_30 rfl (fun _ _ _ => rfl) rfl rfl rfl ?_
  refine zf_bi (v := 51) (pc' := 33) dX8_lifting_31 rfl rfl ?_
  refine zf_iv (k := 202) (pc' := 36) (r := []) dX8_lifting_33 rfl rfl rfl rfl (by decide) rfl rfl rfl (zr_202 (by omega) h) (zf_kO (fun m2 h => ?_))
  exact zf_lo (zq_203_36 (by omega) h) ⟨rfl, rfl, rfl, rfl, trivial⟩
def wq_203_19 (v1 : Int32) (v2 : Int32) (v3 : Int32) (m : zf_Me) (Q : Int32 → zf_Me → Prop) : Prop := ((v3.toInt = 4 → wq_203_30 v1 v2 v3 m Q) ∧ (¬ v3.toInt = 4 → ((¬ v3.toInt = 6 → wq_203_36 v1 v2 v3 m Q) ∧ (v3.toInt = 6 → wq_203_30 v1 v2 v3 m Q))))
theorem zq_203_19 {d : Nat} (hd : 1 ≤ d) {v1 : Int32} {v2 : Int32} {Q : Int32 → zf_Me → Prop} {v3 : Int32} {m : zf_Me} (h : wq_203_19 v1 v2 v3 m Q) : zf_W none 0 0 d zt_203 19 [some (.inr (.inr (1, 63))), some (.inl v1), some (.inl v2), some (.inl v3), none] [] m (zf_I Q) := by
  unfold wq_203_19 at h
  refine zf_ld (pc' := 20) (v := .inl v3) dX8_lifting_19 rfl (fun _ _ _ => rfl) rfl rfl rfl ?_
  refine zf_ic (v := 4) (pc' := 21) dX8_lifting_20 rfl rfl ?_
  refine zf_icmp_eq (tgt := 30) (pc' := 24) dX8_lifting_21 rfl rfl (fun g => ?_) (fun g => ?_)
  · replace h := h.1 g
    exact zf_lo (zq_203_30 (by omega) h) ⟨rfl, rfl, rfl, rfl, trivial⟩
  · replace h := h.2 g
    refine zf_ld (pc' := 25) (v := .inl v3) dX8_lifting_24 rfl (fun _ _ _ => rfl) rfl rfl rfl ?_
    refine zf_bi (v := 6) (pc' := 27) dX8_lifting_25 rfl rfl ?_
    refine zf_icmp_ne (tgt := 36) (pc' := 30) dX8_lifting_27 rfl rfl (fun g => ?_) (fun g => ?_)
    · replace h := h.1 g
      exact zf_lo (zq_203_36 (by omega) h) ⟨rfl, rfl, rfl, rfl, trivial⟩
    · replace h := h.2 g
      exact zf_lo (zq_203_30 (by omega) h) ⟨rfl, rfl, rfl, rfl, trivial⟩
def wp_203 (v1 : Int32) (v2 : Int32) (m : zf_Me) (Q : Int32 → zf_Me → Prop) : Prop := ((0 ≤ (Int32.toInt v1) ∧ (Int32.toInt v1) < (6 : Int)) ∧ ((¬ ((m.1 67 (Int32.toInt v1).toNat)).toInt = 6 → wq_203_19 v1 v2 (m.1 67 (Int32.toInt v1).toNat) m Q) ∧ (((m.1 67 (Int32.toInt v1).toNat)).toInt = 6 → wp_202 70 m (fun m8 => wq_203_19 v1 v2 (m.1 67 (Int32.toInt v1).toNat) m8 Q))))
theorem zr_203 {d : Nat} (hd : 1 ≤ d) {v1 : Int32} {v2 : Int32} {Q : Int32 → zf_Me → Prop} {m : zf_Me} (h : wp_203 v1 v2 m Q) : zf_M d 203 [.inr (.inr (1, 63)), .inl v1, .inl v2] m (zf_I Q) := by
  obtain ⟨e, rfl⟩ : ∃ z, d = z + 1 := ⟨d - 1, by omega⟩
  unfold wp_203 at h
  refine zf_M_of (Nat.le_of_ble_eq_true rfl) zm_203 (L := [some (.inr (.inr (1, 63))), some (.inl v1), some (.inl v2), none, none]) rfl ?_
  refine zf_ld (pc' := 1) (v := .inr (.inr (1, 63))) dX8_lifting_0 rfl (fun _ _ _ => rfl) rfl rfl rfl ?_
  refine zf_gfr (pc' := 4) (b := 67) dX8_lifting_1 rfl rfl (by decide) rfl rfl ?_
  refine zf_ld (pc' := 5) (v := .inl v1) dX8_lifting_4 rfl (fun _ _ _ => rfl) rfl rfl rfl ?_
  refine zf_ial (pc' := 6) dX8_lifting_5 rfl (⟨by decide, rfl⟩ : zf_arr 67 6).1 (⟨by decide, rfl⟩ : zf_arr 67 6).2 h.1 rfl ?_
  replace h := h.2
  refine zf_st (pc' := 7) (L2 := [some (.inr (.inr (1, 63))), some (.inl v1), some (.inl v2), some (.inl (m.1 67 (Int32.toInt v1).toNat)), none]) dX8_lifting_6 rfl (fun _ _ _ => rfl) rfl rfl rfl rfl rfl rfl ?_
  refine zf_ld (pc' := 8) (v := .inl (m.1 67 (Int32.toInt v1).toNat)) dX8_lifting_7 rfl (fun _ _ _ => rfl) rfl rfl rfl ?_
  refine zf_bi (v := 6) (pc' := 10) dX8_lifting_8 rfl rfl ?_
  refine zf_icmp_ne (tgt := 19) (pc' := 13) dX8_lifting_10 rfl rfl (fun g => ?_) (fun g => ?_)
  · replace h := h.1 g
    exact zf_lo (zq_203_19 (by omega) h) ⟨rfl, rfl, rfl, rfl, trivial⟩
  · replace h := h.2 g
    refine zf_ld (pc' := 14) (v := .inr (.inr (1, 63))) dX8_lifting_13 rfl (fun _ _ _ => rfl) rfl rfl rfl ?_
    refine zf_bi (v := 70) (pc' := 16) dX8_lifting_14 rfl rfl ?_
    refine zf_iv (k := 202) (pc' := 19) (r := []) dX8_lifting_16 rfl rfl rfl rfl (by decide) rfl rfl rfl (zr_202 (by omega) h) (zf_kO (fun m8 h => ?_))
    exact zf_lo (zq_203_19 (by omega) h) ⟨rfl, rfl, rfl, rfl, trivial⟩
def zt_204 : zx_MT := (8, yX8_stepping, cX8_stepping, 7, (some FieldType.int), 2, 0)
theorem zm_204 : zx_m 204 = zt_204 := rfl
theorem dX8_stepping_r0 : zdcP cX8_stepping 0 [(.aload_n 0, 1), (.getfield 47, 3), (.iload_n 1, 1), (.iaload, 1), (.istore_n 3, 1), (.iload_n 2, 1), (.istore 4, 2), (.iload_n 3, 1), (.bipush 6, 2), (.if_icmp .ne 19, 3), (.aload_n 0, 1), (.bipush 71, 2), (.invokevirtual 306, 3), (.iload_n 2, 1), (.aload_n 0, 1), (.getfield 50, 3)] := zdcA_ok (by decide +kernel)
theorem dX8_stepping_0 : decode cX8_stepping 0 = .ok (.aload_n 0, 1) := dX8_stepping_r0.1
theorem dX8_stepping_1 : decode cX8_stepping 1 = .ok (.getfield 47, 3) := dX8_stepping_r0.2.1
theorem dX8_stepping_4 : decode cX8_stepping 4 = .ok (.iload_n 1, 1) := dX8_stepping_r0.2.2.1
theorem dX8_stepping_5 : decode cX8_stepping 5 = .ok (.iaload, 1) := dX8_stepping_r0.2.2.2.1
theorem dX8_stepping_6 : decode cX8_stepping 6 = .ok (.istore_n 3, 1) := dX8_stepping_r0.2.2.2.2.1
theorem dX8_stepping_7 : decode cX8_stepping 7 = .ok (.iload_n 2, 1) := dX8_stepping_r0.2.2.2.2.2.1
theorem dX8_stepping_8 : decode cX8_stepping 8 = .ok (.istore 4, 2) := dX8_stepping_r0.2.2.2.2.2.2.1
theorem dX8_stepping_10 : decode cX8_stepping 10 = .ok (.iload_n 3, 1) := dX8_stepping_r0.2.2.2.2.2.2.2.1
theorem dX8_stepping_11 : decode cX8_stepping 11 = .ok (.bipush 6, 2) := dX8_stepping_r0.2.2.2.2.2.2.2.2.1
theorem dX8_stepping_13 : decode cX8_stepping 13 = .ok (.if_icmp .ne 19, 3) := dX8_stepping_r0.2.2.2.2.2.2.2.2.2.1
theorem dX8_stepping_16 : decode cX8_stepping 16 = .ok (.aload_n 0, 1) := dX8_stepping_r0.2.2.2.2.2.2.2.2.2.2.1
theorem dX8_stepping_17 : decode cX8_stepping 17 = .ok (.bipush 71, 2) := dX8_stepping_r0.2.2.2.2.2.2.2.2.2.2.2.1
theorem dX8_stepping_19 : decode cX8_stepping 19 = .ok (.invokevirtual 306, 3) := dX8_stepping_r0.2.2.2.2.2.2.2.2.2.2.2.2.1
theorem dX8_stepping_22 : decode cX8_stepping 22 = .ok (.iload_n 2, 1) := dX8_stepping_r0.2.2.2.2.2.2.2.2.2.2.2.2.2.1
theorem dX8_stepping_23 : decode cX8_stepping 23 = .ok (.aload_n 0, 1) := dX8_stepping_r0.2.2.2.2.2.2.2.2.2.2.2.2.2.2.1
theorem dX8_stepping_24 : decode cX8_stepping 24 = .ok (.getfield 50, 3) := dX8_stepping_r0.2.2.2.2.2.2.2.2.2.2.2.2.2.2.2.1
theorem dX8_stepping_r27 : zdcP cX8_stepping 27 [(.iload_n 1, 1), (.iaload, 1), (.isub, 1), (.istore 4, 2), (.iload_n 3, 1), (.iconst 3, 1), (.if_icmp .ne 14, 3), (.aload_n 0, 1), (.bipush 40, 2), (.invokevirtual 306, 3), (.iload_n 2, 1), (.iconst 1, 1), (.iadd, 1), (.istore 4, 2), (.iload_n 3, 1), (.iconst 2, 1)] := zdcA_ok (by decide +kernel)
theorem dX8_stepping_27 : decode cX8_stepping 27 = .ok (.iload_n 1, 1) := dX8_stepping_r27.1
theorem dX8_stepping_28 : decode cX8_stepping 28 = .ok (.iaload, 1) := dX8_stepping_r27.2.1
theorem dX8_stepping_29 : decode cX8_stepping 29 = .ok (.isub, 1) := dX8_stepping_r27.2.2.1
theorem dX8_stepping_30 : decode cX8_stepping 30 = .ok (.istore 4, 2) := dX8_stepping_r27.2.2.2.1
theorem dX8_stepping_32 : decode cX8_stepping 32 = .ok (.iload_n 3, 1) := dX8_stepping_r27.2.2.2.2.1
theorem dX8_stepping_33 : decode cX8_stepping 33 = .ok (.iconst 3, 1) := dX8_stepping_r27.2.2.2.2.2.1
theorem dX8_stepping_34 : decode cX8_stepping 34 = .ok (.if_icmp .ne 14, 3) := dX8_stepping_r27.2.2.2.2.2.2.1
theorem dX8_stepping_37 : decode cX8_stepping 37 = .ok (.aload_n 0, 1) := dX8_stepping_r27.2.2.2.2.2.2.2.1
theorem dX8_stepping_38 : decode cX8_stepping 38 = .ok (.bipush 40, 2) := dX8_stepping_r27.2.2.2.2.2.2.2.2.1
theorem dX8_stepping_40 : decode cX8_stepping 40 = .ok (.invokevirtual 306, 3) := dX8_stepping_r27.2.2.2.2.2.2.2.2.2.1
theorem dX8_stepping_43 : decode cX8_stepping 43 = .ok (.iload_n 2, 1) := dX8_stepping_r27.2.2.2.2.2.2.2.2.2.2.1
theorem dX8_stepping_44 : decode cX8_stepping 44 = .ok (.iconst 1, 1) := dX8_stepping_r27.2.2.2.2.2.2.2.2.2.2.2.1
theorem dX8_stepping_45 : decode cX8_stepping 45 = .ok (.iadd, 1) := dX8_stepping_r27.2.2.2.2.2.2.2.2.2.2.2.2.1
theorem dX8_stepping_46 : decode cX8_stepping 46 = .ok (.istore 4, 2) := dX8_stepping_r27.2.2.2.2.2.2.2.2.2.2.2.2.2.1
theorem dX8_stepping_48 : decode cX8_stepping 48 = .ok (.iload_n 3, 1) := dX8_stepping_r27.2.2.2.2.2.2.2.2.2.2.2.2.2.2.1
theorem dX8_stepping_49 : decode cX8_stepping 49 = .ok (.iconst 2, 1) := dX8_stepping_r27.2.2.2.2.2.2.2.2.2.2.2.2.2.2.2.1
theorem dX8_stepping_r50 : zdcP cX8_stepping 50 [(.if_icmp .eq 8, 3), (.iload_n 3, 1), (.iconst 5, 1), (.if_icmp .ne 7, 3), (.iconst 1, 1), (.goto 4, 3), (.iconst 0, 1), (.istore 5, 2), (.iload 5, 2), (.ifCond .eq 9, 3), (.aload_n 0, 1), (.bipush 30, 2), (.invokevirtual 306, 3), (.aload_n 0, 1), (.bipush 11, 2), (.invokevirtual 306, 3)] := zdcA_ok (by decide +kernel)
theorem dX8_stepping_50 : decode cX8_stepping 50 = .ok (.if_icmp .eq 8, 3) := dX8_stepping_r50.1
theorem dX8_stepping_53 : decode cX8_stepping 53 = .ok (.iload_n 3, 1) := dX8_stepping_r50.2.1
theorem dX8_stepping_54 : decode cX8_stepping 54 = .ok (.iconst 5, 1) := dX8_stepping_r50.2.2.1
theorem dX8_stepping_55 : decode cX8_stepping 55 = .ok (.if_icmp .ne 7, 3) := dX8_stepping_r50.2.2.2.1
theorem dX8_stepping_58 : decode cX8_stepping 58 = .ok (.iconst 1, 1) := dX8_stepping_r50.2.2.2.2.1
theorem dX8_stepping_59 : decode cX8_stepping 59 = .ok (.goto 4, 3) := dX8_stepping_r50.2.2.2.2.2.1
theorem dX8_stepping_62 : decode cX8_stepping 62 = .ok (.iconst 0, 1) := dX8_stepping_r50.2.2.2.2.2.2.1
theorem dX8_stepping_63 : decode cX8_stepping 63 = .ok (.istore 5, 2) := dX8_stepping_r50.2.2.2.2.2.2.2.1
theorem dX8_stepping_65 : decode cX8_stepping 65 = .ok (.iload 5, 2) := dX8_stepping_r50.2.2.2.2.2.2.2.2.1
theorem dX8_stepping_67 : decode cX8_stepping 67 = .ok (.ifCond .eq 9, 3) := dX8_stepping_r50.2.2.2.2.2.2.2.2.2.1
theorem dX8_stepping_70 : decode cX8_stepping 70 = .ok (.aload_n 0, 1) := dX8_stepping_r50.2.2.2.2.2.2.2.2.2.2.1
theorem dX8_stepping_71 : decode cX8_stepping 71 = .ok (.bipush 30, 2) := dX8_stepping_r50.2.2.2.2.2.2.2.2.2.2.2.1
theorem dX8_stepping_73 : decode cX8_stepping 73 = .ok (.invokevirtual 306, 3) := dX8_stepping_r50.2.2.2.2.2.2.2.2.2.2.2.2.1
theorem dX8_stepping_76 : decode cX8_stepping 76 = .ok (.aload_n 0, 1) := dX8_stepping_r50.2.2.2.2.2.2.2.2.2.2.2.2.2.1
theorem dX8_stepping_77 : decode cX8_stepping 77 = .ok (.bipush 11, 2) := dX8_stepping_r50.2.2.2.2.2.2.2.2.2.2.2.2.2.2.1
theorem dX8_stepping_79 : decode cX8_stepping 79 = .ok (.invokevirtual 306, 3) := dX8_stepping_r50.2.2.2.2.2.2.2.2.2.2.2.2.2.2.2.1
theorem dX8_stepping_r82 : zdcP cX8_stepping 82 [(.aload_n 0, 1), (.iload_n 1, 1), (.iload 4, 2), (.invokevirtual 309, 3), (.iconst 2, 1), (.imul, 1), (.istore 6, 2), (.iload 5, 2), (.ifCond .eq 10, 3), (.iload 6, 2), (.iconst 3, 1), (.imul, 1), (.goto 5, 3), (.iload 6, 2), (.ireturn, 1)] := zdcA_ok (by decide +kernel)
theorem dX8_stepping_82 : decode cX8_stepping 82 = .ok (.aload_n 0, 1) := dX8_stepping_r82.1
theorem dX8_stepping_83 : decode cX8_stepping 83 = .ok (.iload_n 1, 1) := dX8_stepping_r82.2.1
theorem dX8_stepping_84 : decode cX8_stepping 84 = .ok (.iload 4, 2) := dX8_stepping_r82.2.2.1
theorem dX8_stepping_86 : decode cX8_stepping 86 = .ok (.invokevirtual 309, 3) := dX8_stepping_r82.2.2.2.1
theorem dX8_stepping_89 : decode cX8_stepping 89 = .ok (.iconst 2, 1) := dX8_stepping_r82.2.2.2.2.1
theorem dX8_stepping_90 : decode cX8_stepping 90 = .ok (.imul, 1) := dX8_stepping_r82.2.2.2.2.2.1
theorem dX8_stepping_91 : decode cX8_stepping 91 = .ok (.istore 6, 2) := dX8_stepping_r82.2.2.2.2.2.2.1
theorem dX8_stepping_93 : decode cX8_stepping 93 = .ok (.iload 5, 2) := dX8_stepping_r82.2.2.2.2.2.2.2.1
theorem dX8_stepping_95 : decode cX8_stepping 95 = .ok (.ifCond .eq 10, 3) := dX8_stepping_r82.2.2.2.2.2.2.2.2.1
theorem dX8_stepping_98 : decode cX8_stepping 98 = .ok (.iload 6, 2) := dX8_stepping_r82.2.2.2.2.2.2.2.2.2.1
theorem dX8_stepping_100 : decode cX8_stepping 100 = .ok (.iconst 3, 1) := dX8_stepping_r82.2.2.2.2.2.2.2.2.2.2.1
theorem dX8_stepping_101 : decode cX8_stepping 101 = .ok (.imul, 1) := dX8_stepping_r82.2.2.2.2.2.2.2.2.2.2.2.1
theorem dX8_stepping_102 : decode cX8_stepping 102 = .ok (.goto 5, 3) := dX8_stepping_r82.2.2.2.2.2.2.2.2.2.2.2.2.1
theorem dX8_stepping_105 : decode cX8_stepping 105 = .ok (.iload 6, 2) := dX8_stepping_r82.2.2.2.2.2.2.2.2.2.2.2.2.2.1
theorem dX8_stepping_107 : decode cX8_stepping 107 = .ok (.ireturn, 1) := dX8_stepping_r82.2.2.2.2.2.2.2.2.2.2.2.2.2.2.1
def wq_204_76 (v1 : Int32) (v2 : Int32) (v4 : Int32) (v5 : Int32) (m : zf_Me) (Q : Int32 → zf_Me → Prop) : Prop := wp_202 11 m (fun m2 => wp_203 v1 v4 m2 (fun x3 m4 => ((v5.toInt = 0 → Q (x3 * 2) m4) ∧ (¬ v5.toInt = 0 → Q ((x3 * 2) * 3) m4))))
theorem zq_204_76 {d : Nat} (hd : 2 ≤ d) {v1 : Int32} {v2 : Int32} {Q : Int32 → zf_Me → Prop} {v4 : Int32} {v5 : Int32} {m : zf_Me} (h : wq_204_76 v1 v2 v4 v5 m Q) : zf_W none 0 0 d zt_204 76 [some (.inr (.inr (1, 63))), some (.inl v1), none, none, some (.inl v4), some (.inl v5), none] [] m (zf_I Q) := by
  obtain ⟨e, rfl⟩ : ∃ z, d = z + 1 := ⟨d - 1, by omega⟩
  unfold wq_204_76 at h
  refine zf_ld (pc' := 77) (v := .inr (.inr (1, 63))) dX8_stepping_76 rfl (fun _ _ _ => rfl) rfl rfl rfl ?_
  refine zf_bi (v := 11) (pc' := 79) dX8_stepping_77 rfl rfl ?_
  refine zf_iv (k := 202) (pc' := 82) (r := []) dX8_stepping_79 rfl rfl rfl rfl (by decide) rfl rfl rfl (zr_202 (by omega) h) (zf_kO (fun m2 h => ?_))
  refine zf_ld (pc' := 83) (v := .inr (.inr (1, 63))) dX8_stepping_82 rfl (fun _ _ _ => rfl) rfl rfl rfl ?_
  refine zf_ld (pc' := 84) (v := .inl v1) dX8_stepping_83 rfl (fun _ _ _ => rfl) rfl rfl rfl ?_
  refine zf_ld (pc' := 86) (v := .inl v4) dX8_stepping_84 rfl (fun _ _ _ => rfl) rfl rfl rfl ?_
  refine zf_iv (k := 203) (pc' := 89) (r := []) dX8_stepping_86 rfl rfl rfl rfl (by decide) rfl rfl rfl (zr_203 (by omega) h) (zf_kI (fun x3 m4 h => ?_))
  refine zf_ic (v := 2) (pc' := 90) dX8_stepping_89 rfl rfl ?_
  refine zf_in (pc' := 91) (S' := [.inl (x3 * 2)]) dX8_stepping_90 rfl (fun _ _ _ => rfl) ?_
  refine zf_st (pc' := 93) (L2 := [some (.inr (.inr (1, 63))), some (.inl v1), none, none, some (.inl v4), some (.inl v5), some (.inl (x3 * 2))]) dX8_stepping_91 rfl (fun _ _ _ => rfl) rfl rfl rfl rfl rfl rfl ?_
  refine zf_ld (pc' := 95) (v := .inl v5) dX8_stepping_93 rfl (fun _ _ _ => rfl) rfl rfl rfl ?_
  refine zf_if_eq (tgt := 105) (pc' := 98) dX8_stepping_95 rfl rfl (fun g => ?_) (fun g => ?_)
  · replace h := h.1 g
    refine zf_ld (pc' := 107) (v := .inl (x3 * 2)) dX8_stepping_105 rfl (fun _ _ _ => rfl) rfl rfl rfl ?_
    exact zf_ri dX8_stepping_107 rfl h
  · replace h := h.2 g
    refine zf_ld (pc' := 100) (v := .inl (x3 * 2)) dX8_stepping_98 rfl (fun _ _ _ => rfl) rfl rfl rfl ?_
    refine zf_ic (v := 3) (pc' := 101) dX8_stepping_100 rfl rfl ?_
    refine zf_in (pc' := 102) (S' := [.inl ((x3 * 2) * 3)]) dX8_stepping_101 rfl (fun _ _ _ => rfl) ?_
    refine zf_goto (tgt := 107) dX8_stepping_102 rfl ?_
    exact zf_ri dX8_stepping_107 rfl h
def wq_204_63 (v1 : Int32) (v2 : Int32) (v4 : Int32) (u0 : Int32) (m : zf_Me) (Q : Int32 → zf_Me → Prop) : Prop := ((u0.toInt = 0 → wq_204_76 v1 v2 v4 u0 m Q) ∧ (¬ u0.toInt = 0 → wp_202 30 m (fun m6 => wq_204_76 v1 v2 v4 u0 m6 Q)))
theorem zq_204_63 {d : Nat} (hd : 2 ≤ d) {v1 : Int32} {v2 : Int32} {Q : Int32 → zf_Me → Prop} {v4 : Int32} {u0 : Int32} {m : zf_Me} (h : wq_204_63 v1 v2 v4 u0 m Q) : zf_W none 0 0 d zt_204 63 [some (.inr (.inr (1, 63))), some (.inl v1), none, none, some (.inl v4), none, none] [.inl u0] m (zf_I Q) := by
  obtain ⟨e, rfl⟩ : ∃ z, d = z + 1 := ⟨d - 1, by omega⟩
  unfold wq_204_63 at h
  refine zf_st (pc' := 65) (L2 := [some (.inr (.inr (1, 63))), some (.inl v1), none, none, some (.inl v4), some (.inl u0), none]) dX8_stepping_63 rfl (fun _ _ _ => rfl) rfl rfl rfl rfl rfl rfl ?_
  refine zf_ld (pc' := 67) (v := .inl u0) dX8_stepping_65 rfl (fun _ _ _ => rfl) rfl rfl rfl ?_
  refine zf_if_eq (tgt := 76) (pc' := 70) dX8_stepping_67 rfl rfl (fun g => ?_) (fun g => ?_)
  · replace h := h.1 g
    exact zf_lo (zq_204_76 (by omega) h) ⟨rfl, rfl, rfl, rfl, trivial⟩
  · replace h := h.2 g
    refine zf_ld (pc' := 71) (v := .inr (.inr (1, 63))) dX8_stepping_70 rfl (fun _ _ _ => rfl) rfl rfl rfl ?_
    refine zf_bi (v := 30) (pc' := 73) dX8_stepping_71 rfl rfl ?_
    refine zf_iv (k := 202) (pc' := 76) (r := []) dX8_stepping_73 rfl rfl rfl rfl (by decide) rfl rfl rfl (zr_202 (by omega) h) (zf_kO (fun m6 h => ?_))
    exact zf_lo (zq_204_76 (by omega) h) ⟨rfl, rfl, rfl, rfl, trivial⟩
def wq_204_58 (v1 : Int32) (v2 : Int32) (v4 : Int32) (m : zf_Me) (Q : Int32 → zf_Me → Prop) : Prop := wq_204_63 v1 v2 v4 1 m Q
theorem zq_204_58 {d : Nat} (hd : 2 ≤ d) {v1 : Int32} {v2 : Int32} {Q : Int32 → zf_Me → Prop} {v4 : Int32} {m : zf_Me} (h : wq_204_58 v1 v2 v4 m Q) : zf_W none 0 0 d zt_204 58 [some (.inr (.inr (1, 63))), some (.inl v1), none, none, some (.inl v4), none, none] [] m (zf_I Q) := by
  unfold wq_204_58 at h
  refine zf_ic (v := 1) (pc' := 59) dX8_stepping_58 rfl rfl ?_
  refine zf_goto (tgt := 63) dX8_stepping_59 rfl ?_
  exact zf_lo (zq_204_63 (by omega) h) ⟨rfl, rfl, rfl, trivial⟩
def wq_204_48 (v1 : Int32) (v2 : Int32) (v3 : Int32) (v4 : Int32) (m : zf_Me) (Q : Int32 → zf_Me → Prop) : Prop := ((v3.toInt = 2 → wq_204_58 v1 v2 v4 m Q) ∧ (¬ v3.toInt = 2 → ((¬ v3.toInt = 5 → wq_204_63 v1 v2 v4 0 m Q) ∧ (v3.toInt = 5 → wq_204_58 v1 v2 v4 m Q))))
theorem zq_204_48 {d : Nat} (hd : 2 ≤ d) {v1 : Int32} {v2 : Int32} {Q : Int32 → zf_Me → Prop} {v3 : Int32} {v4 : Int32} {m : zf_Me} (h : wq_204_48 v1 v2 v3 v4 m Q) : zf_W none 0 0 d zt_204 48 [some (.inr (.inr (1, 63))), some (.inl v1), none, some (.inl v3), some (.inl v4), none, none] [] m (zf_I Q) := by
  unfold wq_204_48 at h
  refine zf_ld (pc' := 49) (v := .inl v3) dX8_stepping_48 rfl (fun _ _ _ => rfl) rfl rfl rfl ?_
  refine zf_ic (v := 2) (pc' := 50) dX8_stepping_49 rfl rfl ?_
  refine zf_icmp_eq (tgt := 58) (pc' := 53) dX8_stepping_50 rfl rfl (fun g => ?_) (fun g => ?_)
  · replace h := h.1 g
    exact zf_lo (zq_204_58 (by omega) h) ⟨rfl, rfl, rfl, trivial⟩
  · replace h := h.2 g
    refine zf_ld (pc' := 54) (v := .inl v3) dX8_stepping_53 rfl (fun _ _ _ => rfl) rfl rfl rfl ?_
    refine zf_ic (v := 5) (pc' := 55) dX8_stepping_54 rfl rfl ?_
    refine zf_icmp_ne (tgt := 62) (pc' := 58) dX8_stepping_55 rfl rfl (fun g => ?_) (fun g => ?_)
    · replace h := h.1 g
      refine zf_ic (v := 0) (pc' := 63) dX8_stepping_62 rfl rfl ?_
      exact zf_lo (zq_204_63 (by omega) h) ⟨rfl, rfl, rfl, trivial⟩
    · replace h := h.2 g
      exact zf_lo (zq_204_58 (by omega) h) ⟨rfl, rfl, rfl, trivial⟩
def wq_204_32 (v1 : Int32) (v2 : Int32) (v3 : Int32) (v4 : Int32) (m : zf_Me) (Q : Int32 → zf_Me → Prop) : Prop := ((¬ v3.toInt = 3 → wq_204_48 v1 v2 v3 v4 m Q) ∧ (v3.toInt = 3 → wp_202 40 m (fun m8 => wq_204_48 v1 v2 v3 (v2 + 1) m8 Q)))
theorem zq_204_32 {d : Nat} (hd : 2 ≤ d) {v1 : Int32} {v2 : Int32} {Q : Int32 → zf_Me → Prop} {v3 : Int32} {v4 : Int32} {m : zf_Me} (h : wq_204_32 v1 v2 v3 v4 m Q) : zf_W none 0 0 d zt_204 32 [some (.inr (.inr (1, 63))), some (.inl v1), some (.inl v2), some (.inl v3), some (.inl v4), none, none] [] m (zf_I Q) := by
  obtain ⟨e, rfl⟩ : ∃ z, d = z + 1 := ⟨d - 1, by omega⟩
  unfold wq_204_32 at h
  refine zf_ld (pc' := 33) (v := .inl v3) dX8_stepping_32 rfl (fun _ _ _ => rfl) rfl rfl rfl ?_
  refine zf_ic (v := 3) (pc' := 34) dX8_stepping_33 rfl rfl ?_
  refine zf_icmp_ne (tgt := 48) (pc' := 37) dX8_stepping_34 rfl rfl (fun g => ?_) (fun g => ?_)
  · replace h := h.1 g
    exact zf_lo (zq_204_48 (by omega) h) ⟨rfl, rfl, rfl, rfl, trivial⟩
  · replace h := h.2 g
    refine zf_ld (pc' := 38) (v := .inr (.inr (1, 63))) dX8_stepping_37 rfl (fun _ _ _ => rfl) rfl rfl rfl ?_
    refine zf_bi (v := 40) (pc' := 40) dX8_stepping_38 rfl rfl ?_
    refine zf_iv (k := 202) (pc' := 43) (r := []) dX8_stepping_40 rfl rfl rfl rfl (by decide) rfl rfl rfl (zr_202 (by omega) h) (zf_kO (fun m8 h => ?_))
    refine zf_ld (pc' := 44) (v := .inl v2) dX8_stepping_43 rfl (fun _ _ _ => rfl) rfl rfl rfl ?_
    refine zf_ic (v := 1) (pc' := 45) dX8_stepping_44 rfl rfl ?_
    refine zf_in (pc' := 46) (S' := [.inl (v2 + 1)]) dX8_stepping_45 rfl (fun _ _ _ => rfl) ?_
    refine zf_st (pc' := 48) (L2 := [some (.inr (.inr (1, 63))), some (.inl v1), some (.inl v2), some (.inl v3), some (.inl (v2 + 1)), none, none]) dX8_stepping_46 rfl (fun _ _ _ => rfl) rfl rfl rfl rfl rfl rfl ?_
    exact zf_lo (zq_204_48 (by omega) h) ⟨rfl, rfl, rfl, rfl, trivial⟩
def wp_204 (v1 : Int32) (v2 : Int32) (m : zf_Me) (Q : Int32 → zf_Me → Prop) : Prop := ((0 ≤ (Int32.toInt v1) ∧ (Int32.toInt v1) < (6 : Int)) ∧ ((¬ ((m.1 67 (Int32.toInt v1).toNat)).toInt = 6 → wq_204_32 v1 v2 (m.1 67 (Int32.toInt v1).toNat) v2 m Q) ∧ (((m.1 67 (Int32.toInt v1).toNat)).toInt = 6 → wp_202 71 m (fun m10 => ((0 ≤ (Int32.toInt v1) ∧ (Int32.toInt v1) < (6 : Int)) ∧ wq_204_32 v1 v2 (m.1 67 (Int32.toInt v1).toNat) (v2 - (m10.1 68 (Int32.toInt v1).toNat)) m10 Q)))))
theorem zr_204 {d : Nat} (hd : 2 ≤ d) {v1 : Int32} {v2 : Int32} {Q : Int32 → zf_Me → Prop} {m : zf_Me} (h : wp_204 v1 v2 m Q) : zf_M d 204 [.inr (.inr (1, 63)), .inl v1, .inl v2] m (zf_I Q) := by
  obtain ⟨e, rfl⟩ : ∃ z, d = z + 1 := ⟨d - 1, by omega⟩
  unfold wp_204 at h
  refine zf_M_of (Nat.le_of_ble_eq_true rfl) zm_204 (L := [some (.inr (.inr (1, 63))), some (.inl v1), some (.inl v2), none, none, none, none]) rfl ?_
  refine zf_ld (pc' := 1) (v := .inr (.inr (1, 63))) dX8_stepping_0 rfl (fun _ _ _ => rfl) rfl rfl rfl ?_
  refine zf_gfr (pc' := 4) (b := 67) dX8_stepping_1 rfl rfl (by decide) rfl rfl ?_
  refine zf_ld (pc' := 5) (v := .inl v1) dX8_stepping_4 rfl (fun _ _ _ => rfl) rfl rfl rfl ?_
  refine zf_ial (pc' := 6) dX8_stepping_5 rfl (⟨by decide, rfl⟩ : zf_arr 67 6).1 (⟨by decide, rfl⟩ : zf_arr 67 6).2 h.1 rfl ?_
  replace h := h.2
  refine zf_st (pc' := 7) (L2 := [some (.inr (.inr (1, 63))), some (.inl v1), some (.inl v2), some (.inl (m.1 67 (Int32.toInt v1).toNat)), none, none, none]) dX8_stepping_6 rfl (fun _ _ _ => rfl) rfl rfl rfl rfl rfl rfl ?_
  refine zf_ld (pc' := 8) (v := .inl v2) dX8_stepping_7 rfl (fun _ _ _ => rfl) rfl rfl rfl ?_
  refine zf_st (pc' := 10) (L2 := [some (.inr (.inr (1, 63))), some (.inl v1), some (.inl v2), some (.inl (m.1 67 (Int32.toInt v1).toNat)), some (.inl v2), none, none]) dX8_stepping_8 rfl (fun _ _ _ => rfl) rfl rfl rfl rfl rfl rfl ?_
  refine zf_ld (pc' := 11) (v := .inl (m.1 67 (Int32.toInt v1).toNat)) dX8_stepping_10 rfl (fun _ _ _ => rfl) rfl rfl rfl ?_
  refine zf_bi (v := 6) (pc' := 13) dX8_stepping_11 rfl rfl ?_
  refine zf_icmp_ne (tgt := 32) (pc' := 16) dX8_stepping_13 rfl rfl (fun g => ?_) (fun g => ?_)
  · replace h := h.1 g
    exact zf_lo (zq_204_32 (by omega) h) ⟨rfl, rfl, rfl, rfl, rfl, trivial⟩
  · replace h := h.2 g
    refine zf_ld (pc' := 17) (v := .inr (.inr (1, 63))) dX8_stepping_16 rfl (fun _ _ _ => rfl) rfl rfl rfl ?_
    refine zf_bi (v := 71) (pc' := 19) dX8_stepping_17 rfl rfl ?_
    refine zf_iv (k := 202) (pc' := 22) (r := []) dX8_stepping_19 rfl rfl rfl rfl (by decide) rfl rfl rfl (zr_202 (by omega) h) (zf_kO (fun m10 h => ?_))
    refine zf_ld (pc' := 23) (v := .inl v2) dX8_stepping_22 rfl (fun _ _ _ => rfl) rfl rfl rfl ?_
    refine zf_ld (pc' := 24) (v := .inr (.inr (1, 63))) dX8_stepping_23 rfl (fun _ _ _ => rfl) rfl rfl rfl ?_
    refine zf_gfr (pc' := 27) (b := 68) dX8_stepping_24 rfl rfl (by decide) rfl rfl ?_
    refine zf_ld (pc' := 28) (v := .inl v1) dX8_stepping_27 rfl (fun _ _ _ => rfl) rfl rfl rfl ?_
    refine zf_ial (pc' := 29) dX8_stepping_28 rfl (⟨by decide, rfl⟩ : zf_arr 68 6).1 (⟨by decide, rfl⟩ : zf_arr 68 6).2 h.1 rfl ?_
    replace h := h.2
    refine zf_in (pc' := 30) (S' := [.inl (v2 - (m10.1 68 (Int32.toInt v1).toNat))]) dX8_stepping_29 rfl (fun _ _ _ => rfl) ?_
    refine zf_st (pc' := 32) (L2 := [some (.inr (.inr (1, 63))), some (.inl v1), some (.inl v2), some (.inl (m.1 67 (Int32.toInt v1).toNat)), some (.inl (v2 - (m10.1 68 (Int32.toInt v1).toNat))), none, none]) dX8_stepping_30 rfl (fun _ _ _ => rfl) rfl rfl rfl rfl rfl rfl ?_
    exact zf_lo (zq_204_32 (by omega) h) ⟨rfl, rfl, rfl, rfl, rfl, trivial⟩
def zt_205 : zx_MT := (8, yX8_resting, cX8_resting, 5, (some FieldType.int), 2, 0)
theorem zm_205 : zx_m 205 = zt_205 := rfl
theorem dX8_resting_r0 : zdcP cX8_resting 0 [(.aload_n 0, 1), (.getfield 47, 3), (.iload_n 1, 1), (.iaload, 1), (.istore_n 3, 1), (.iload_n 3, 1), (.iconst 4, 1), (.if_icmp .eq 9, 3), (.iload_n 3, 1), (.bipush 6, 2), (.if_icmp .ne 9, 3), (.aload_n 0, 1), (.bipush 50, 2), (.invokevirtual 306, 3), (.iload_n 3, 1), (.iconst 5, 1)] := zdcA_ok (by decide +kernel)
theorem dX8_resting_0 : decode cX8_resting 0 = .ok (.aload_n 0, 1) := dX8_resting_r0.1
theorem dX8_resting_1 : decode cX8_resting 1 = .ok (.getfield 47, 3) := dX8_resting_r0.2.1
theorem dX8_resting_4 : decode cX8_resting 4 = .ok (.iload_n 1, 1) := dX8_resting_r0.2.2.1
theorem dX8_resting_5 : decode cX8_resting 5 = .ok (.iaload, 1) := dX8_resting_r0.2.2.2.1
theorem dX8_resting_6 : decode cX8_resting 6 = .ok (.istore_n 3, 1) := dX8_resting_r0.2.2.2.2.1
theorem dX8_resting_7 : decode cX8_resting 7 = .ok (.iload_n 3, 1) := dX8_resting_r0.2.2.2.2.2.1
theorem dX8_resting_8 : decode cX8_resting 8 = .ok (.iconst 4, 1) := dX8_resting_r0.2.2.2.2.2.2.1
theorem dX8_resting_9 : decode cX8_resting 9 = .ok (.if_icmp .eq 9, 3) := dX8_resting_r0.2.2.2.2.2.2.2.1
theorem dX8_resting_12 : decode cX8_resting 12 = .ok (.iload_n 3, 1) := dX8_resting_r0.2.2.2.2.2.2.2.2.1
theorem dX8_resting_13 : decode cX8_resting 13 = .ok (.bipush 6, 2) := dX8_resting_r0.2.2.2.2.2.2.2.2.2.1
theorem dX8_resting_15 : decode cX8_resting 15 = .ok (.if_icmp .ne 9, 3) := dX8_resting_r0.2.2.2.2.2.2.2.2.2.2.1
theorem dX8_resting_18 : decode cX8_resting 18 = .ok (.aload_n 0, 1) := dX8_resting_r0.2.2.2.2.2.2.2.2.2.2.2.1
theorem dX8_resting_19 : decode cX8_resting 19 = .ok (.bipush 50, 2) := dX8_resting_r0.2.2.2.2.2.2.2.2.2.2.2.2.1
theorem dX8_resting_21 : decode cX8_resting 21 = .ok (.invokevirtual 306, 3) := dX8_resting_r0.2.2.2.2.2.2.2.2.2.2.2.2.2.1
theorem dX8_resting_24 : decode cX8_resting 24 = .ok (.iload_n 3, 1) := dX8_resting_r0.2.2.2.2.2.2.2.2.2.2.2.2.2.2.1
theorem dX8_resting_25 : decode cX8_resting 25 = .ok (.iconst 5, 1) := dX8_resting_r0.2.2.2.2.2.2.2.2.2.2.2.2.2.2.2.1
theorem dX8_resting_r26 : zdcP cX8_resting 26 [(.if_icmp .ne 9, 3), (.aload_n 0, 1), (.bipush 60, 2), (.invokevirtual 306, 3), (.aload_n 0, 1), (.bipush 12, 2), (.invokevirtual 306, 3), (.aload_n 0, 1), (.iload_n 1, 1), (.iload_n 2, 1), (.invokevirtual 312, 3), (.istore 4, 2), (.iload 4, 2), (.aload_n 0, 1), (.iload_n 1, 1), (.iload_n 2, 1)] := zdcA_ok (by decide +kernel)
theorem dX8_resting_26 : decode cX8_resting 26 = .ok (.if_icmp .ne 9, 3) := dX8_resting_r26.1
theorem dX8_resting_29 : decode cX8_resting 29 = .ok (.aload_n 0, 1) := dX8_resting_r26.2.1
theorem dX8_resting_30 : decode cX8_resting 30 = .ok (.bipush 60, 2) := dX8_resting_r26.2.2.1
theorem dX8_resting_32 : decode cX8_resting 32 = .ok (.invokevirtual 306, 3) := dX8_resting_r26.2.2.2.1
theorem dX8_resting_35 : decode cX8_resting 35 = .ok (.aload_n 0, 1) := dX8_resting_r26.2.2.2.2.1
theorem dX8_resting_36 : decode cX8_resting 36 = .ok (.bipush 12, 2) := dX8_resting_r26.2.2.2.2.2.1
theorem dX8_resting_38 : decode cX8_resting 38 = .ok (.invokevirtual 306, 3) := dX8_resting_r26.2.2.2.2.2.2.1
theorem dX8_resting_41 : decode cX8_resting 41 = .ok (.aload_n 0, 1) := dX8_resting_r26.2.2.2.2.2.2.2.1
theorem dX8_resting_42 : decode cX8_resting 42 = .ok (.iload_n 1, 1) := dX8_resting_r26.2.2.2.2.2.2.2.2.1
theorem dX8_resting_43 : decode cX8_resting 43 = .ok (.iload_n 2, 1) := dX8_resting_r26.2.2.2.2.2.2.2.2.2.1
theorem dX8_resting_44 : decode cX8_resting 44 = .ok (.invokevirtual 312, 3) := dX8_resting_r26.2.2.2.2.2.2.2.2.2.2.1
theorem dX8_resting_47 : decode cX8_resting 47 = .ok (.istore 4, 2) := dX8_resting_r26.2.2.2.2.2.2.2.2.2.2.2.1
theorem dX8_resting_49 : decode cX8_resting 49 = .ok (.iload 4, 2) := dX8_resting_r26.2.2.2.2.2.2.2.2.2.2.2.2.1
theorem dX8_resting_51 : decode cX8_resting 51 = .ok (.aload_n 0, 1) := dX8_resting_r26.2.2.2.2.2.2.2.2.2.2.2.2.2.1
theorem dX8_resting_52 : decode cX8_resting 52 = .ok (.iload_n 1, 1) := dX8_resting_r26.2.2.2.2.2.2.2.2.2.2.2.2.2.2.1
theorem dX8_resting_53 : decode cX8_resting 53 = .ok (.iload_n 2, 1) := dX8_resting_r26.2.2.2.2.2.2.2.2.2.2.2.2.2.2.2.1
theorem dX8_resting_r54 : zdcP cX8_resting 54 [(.aload_n 0, 1), (.getfield 50, 3), (.iload_n 1, 1), (.iaload, 1), (.isub, 1), (.invokevirtual 309, 3), (.ixor, 1), (.istore 4, 2), (.iload_n 3, 1), (.iconst 4, 1), (.if_icmp .eq 9, 3), (.iload_n 3, 1), (.bipush 6, 2), (.if_icmp .ne 9, 3), (.iload 4, 2), (.ineg, 1)] := zdcA_ok (by decide +kernel)
theorem dX8_resting_54 : decode cX8_resting 54 = .ok (.aload_n 0, 1) := dX8_resting_r54.1
theorem dX8_resting_55 : decode cX8_resting 55 = .ok (.getfield 50, 3) := dX8_resting_r54.2.1
theorem dX8_resting_58 : decode cX8_resting 58 = .ok (.iload_n 1, 1) := dX8_resting_r54.2.2.1
theorem dX8_resting_59 : decode cX8_resting 59 = .ok (.iaload, 1) := dX8_resting_r54.2.2.2.1
theorem dX8_resting_60 : decode cX8_resting 60 = .ok (.isub, 1) := dX8_resting_r54.2.2.2.2.1
theorem dX8_resting_61 : decode cX8_resting 61 = .ok (.invokevirtual 309, 3) := dX8_resting_r54.2.2.2.2.2.1
theorem dX8_resting_64 : decode cX8_resting 64 = .ok (.ixor, 1) := dX8_resting_r54.2.2.2.2.2.2.1
theorem dX8_resting_65 : decode cX8_resting 65 = .ok (.istore 4, 2) := dX8_resting_r54.2.2.2.2.2.2.2.1
theorem dX8_resting_67 : decode cX8_resting 67 = .ok (.iload_n 3, 1) := dX8_resting_r54.2.2.2.2.2.2.2.2.1
theorem dX8_resting_68 : decode cX8_resting 68 = .ok (.iconst 4, 1) := dX8_resting_r54.2.2.2.2.2.2.2.2.2.1
theorem dX8_resting_69 : decode cX8_resting 69 = .ok (.if_icmp .eq 9, 3) := dX8_resting_r54.2.2.2.2.2.2.2.2.2.2.1
theorem dX8_resting_72 : decode cX8_resting 72 = .ok (.iload_n 3, 1) := dX8_resting_r54.2.2.2.2.2.2.2.2.2.2.2.1
theorem dX8_resting_73 : decode cX8_resting 73 = .ok (.bipush 6, 2) := dX8_resting_r54.2.2.2.2.2.2.2.2.2.2.2.2.1
theorem dX8_resting_75 : decode cX8_resting 75 = .ok (.if_icmp .ne 9, 3) := dX8_resting_r54.2.2.2.2.2.2.2.2.2.2.2.2.2.1
theorem dX8_resting_78 : decode cX8_resting 78 = .ok (.iload 4, 2) := dX8_resting_r54.2.2.2.2.2.2.2.2.2.2.2.2.2.2.1
theorem dX8_resting_80 : decode cX8_resting 80 = .ok (.ineg, 1) := dX8_resting_r54.2.2.2.2.2.2.2.2.2.2.2.2.2.2.2.1
theorem dX8_resting_r81 : zdcP cX8_resting 81 [(.goto 17, 3), (.iload_n 3, 1), (.iconst 5, 1), (.if_icmp .ne 10, 3), (.iload 4, 2), (.iconst 5, 1), (.ixor, 1), (.goto 5, 3), (.iload 4, 2), (.ireturn, 1)] := zdcA_ok (by decide +kernel)
theorem dX8_resting_81 : decode cX8_resting 81 = .ok (.goto 17, 3) := dX8_resting_r81.1
theorem dX8_resting_84 : decode cX8_resting 84 = .ok (.iload_n 3, 1) := dX8_resting_r81.2.1
theorem dX8_resting_85 : decode cX8_resting 85 = .ok (.iconst 5, 1) := dX8_resting_r81.2.2.1
theorem dX8_resting_86 : decode cX8_resting 86 = .ok (.if_icmp .ne 10, 3) := dX8_resting_r81.2.2.2.1
theorem dX8_resting_89 : decode cX8_resting 89 = .ok (.iload 4, 2) := dX8_resting_r81.2.2.2.2.1
theorem dX8_resting_91 : decode cX8_resting 91 = .ok (.iconst 5, 1) := dX8_resting_r81.2.2.2.2.2.1
theorem dX8_resting_92 : decode cX8_resting 92 = .ok (.ixor, 1) := dX8_resting_r81.2.2.2.2.2.2.1
theorem dX8_resting_93 : decode cX8_resting 93 = .ok (.goto 5, 3) := dX8_resting_r81.2.2.2.2.2.2.2.1
theorem dX8_resting_96 : decode cX8_resting 96 = .ok (.iload 4, 2) := dX8_resting_r81.2.2.2.2.2.2.2.2.1
theorem dX8_resting_98 : decode cX8_resting 98 = .ok (.ireturn, 1) := dX8_resting_r81.2.2.2.2.2.2.2.2.2.1
def wq_205_35 (v1 : Int32) (v2 : Int32) (v3 : Int32) (m : zf_Me) (Q : Int32 → zf_Me → Prop) : Prop := wp_202 12 m (fun m4 => wp_204 v1 v2 m4 (fun x5 m6 => ((0 ≤ (Int32.toInt v1) ∧ (Int32.toInt v1) < (6 : Int)) ∧ wp_203 v1 (v2 - (m6.1 68 (Int32.toInt v1).toNat)) m6 (fun x7 m8 => ((v3.toInt = 4 → Q (-(x5 ^^^ x7)) m8) ∧ (¬ v3.toInt = 4 → ((¬ v3.toInt = 6 → ((¬ v3.toInt = 5 → Q (x5 ^^^ x7) m8) ∧ (v3.toInt = 5 → Q ((x5 ^^^ x7) ^^^ 5) m8))) ∧ (v3.toInt = 6 → Q (-(x5 ^^^ x7)) m8))))))))
theorem zq_205_35 {d : Nat} (hd : 3 ≤ d) {v1 : Int32} {v2 : Int32} {Q : Int32 → zf_Me → Prop} {v3 : Int32} {m : zf_Me} (h : wq_205_35 v1 v2 v3 m Q) : zf_W none 0 0 d zt_205 35 [some (.inr (.inr (1, 63))), some (.inl v1), some (.inl v2), some (.inl v3), none] [] m (zf_I Q) := by
  obtain ⟨e, rfl⟩ : ∃ z, d = z + 1 := ⟨d - 1, by omega⟩
  unfold wq_205_35 at h
  refine zf_ld (pc' := 36) (v := .inr (.inr (1, 63))) dX8_resting_35 rfl (fun _ _ _ => rfl) rfl rfl rfl ?_
  refine zf_bi (v := 12) (pc' := 38) dX8_resting_36 rfl rfl ?_
  refine zf_iv (k := 202) (pc' := 41) (r := []) dX8_resting_38 rfl rfl rfl rfl (by decide) rfl rfl rfl (zr_202 (by omega) h) (zf_kO (fun m4 h => ?_))
  refine zf_ld (pc' := 42) (v := .inr (.inr (1, 63))) dX8_resting_41 rfl (fun _ _ _ => rfl) rfl rfl rfl ?_
  refine zf_ld (pc' := 43) (v := .inl v1) dX8_resting_42 rfl (fun _ _ _ => rfl) rfl rfl rfl ?_
  refine zf_ld (pc' := 44) (v := .inl v2) dX8_resting_43 rfl (fun _ _ _ => rfl) rfl rfl rfl ?_
  refine zf_iv (k := 204) (pc' := 47) (r := []) dX8_resting_44 rfl rfl rfl rfl (by decide) rfl rfl rfl (zr_204 (by omega) h) (zf_kI (fun x5 m6 h => ?_))
  refine zf_st (pc' := 49) (L2 := [some (.inr (.inr (1, 63))), some (.inl v1), some (.inl v2), some (.inl v3), some (.inl x5)]) dX8_resting_47 rfl (fun _ _ _ => rfl) rfl rfl rfl rfl rfl rfl ?_
  refine zf_ld (pc' := 51) (v := .inl x5) dX8_resting_49 rfl (fun _ _ _ => rfl) rfl rfl rfl ?_
  refine zf_ld (pc' := 52) (v := .inr (.inr (1, 63))) dX8_resting_51 rfl (fun _ _ _ => rfl) rfl rfl rfl ?_
  refine zf_ld (pc' := 53) (v := .inl v1) dX8_resting_52 rfl (fun _ _ _ => rfl) rfl rfl rfl ?_
  refine zf_ld (pc' := 54) (v := .inl v2) dX8_resting_53 rfl (fun _ _ _ => rfl) rfl rfl rfl ?_
  refine zf_ld (pc' := 55) (v := .inr (.inr (1, 63))) dX8_resting_54 rfl (fun _ _ _ => rfl) rfl rfl rfl ?_
  refine zf_gfr (pc' := 58) (b := 68) dX8_resting_55 rfl rfl (by decide) rfl rfl ?_
  refine zf_ld (pc' := 59) (v := .inl v1) dX8_resting_58 rfl (fun _ _ _ => rfl) rfl rfl rfl ?_
  refine zf_ial (pc' := 60) dX8_resting_59 rfl (⟨by decide, rfl⟩ : zf_arr 68 6).1 (⟨by decide, rfl⟩ : zf_arr 68 6).2 h.1 rfl ?_
  replace h := h.2
  refine zf_in (pc' := 61) (S' := [.inl (v2 - (m6.1 68 (Int32.toInt v1).toNat)), .inl v1, .inr (.inr (1, 63)), .inl x5]) dX8_resting_60 rfl (fun _ _ _ => rfl) ?_
  refine zf_iv (k := 203) (pc' := 64) (r := [.inl x5]) dX8_resting_61 rfl rfl rfl rfl (by decide) rfl rfl rfl (zr_203 (by omega) h) (zf_kI (fun x7 m8 h => ?_))
  refine zf_in (pc' := 65) (S' := [.inl (x5 ^^^ x7)]) dX8_resting_64 rfl (fun _ _ _ => rfl) ?_
  refine zf_st (pc' := 67) (L2 := [some (.inr (.inr (1, 63))), some (.inl v1), some (.inl v2), some (.inl v3), some (.inl (x5 ^^^ x7))]) dX8_resting_65 rfl (fun _ _ _ => rfl) rfl rfl rfl rfl rfl rfl ?_
  refine zf_ld (pc' := 68) (v := .inl v3) dX8_resting_67 rfl (fun _ _ _ => rfl) rfl rfl rfl ?_
  refine zf_ic (v := 4) (pc' := 69) dX8_resting_68 rfl rfl ?_
  refine zf_icmp_eq (tgt := 78) (pc' := 72) dX8_resting_69 rfl rfl (fun g => ?_) (fun g => ?_)
  · replace h := h.1 g
    refine zf_ld (pc' := 80) (v := .inl (x5 ^^^ x7)) dX8_resting_78 rfl (fun _ _ _ => rfl) rfl rfl rfl ?_
    refine zf_in (pc' := 81) (S' := [.inl (-(x5 ^^^ x7))]) dX8_resting_80 rfl (fun _ _ _ => rfl) ?_
    refine zf_goto (tgt := 98) dX8_resting_81 rfl ?_
    exact zf_ri dX8_resting_98 rfl h
  · replace h := h.2 g
    refine zf_ld (pc' := 73) (v := .inl v3) dX8_resting_72 rfl (fun _ _ _ => rfl) rfl rfl rfl ?_
    refine zf_bi (v := 6) (pc' := 75) dX8_resting_73 rfl rfl ?_
    refine zf_icmp_ne (tgt := 84) (pc' := 78) dX8_resting_75 rfl rfl (fun g => ?_) (fun g => ?_)
    · replace h := h.1 g
      refine zf_ld (pc' := 85) (v := .inl v3) dX8_resting_84 rfl (fun _ _ _ => rfl) rfl rfl rfl ?_
      refine zf_ic (v := 5) (pc' := 86) dX8_resting_85 rfl rfl ?_
      refine zf_icmp_ne (tgt := 96) (pc' := 89) dX8_resting_86 rfl rfl (fun g => ?_) (fun g => ?_)
      · replace h := h.1 g
        refine zf_ld (pc' := 98) (v := .inl (x5 ^^^ x7)) dX8_resting_96 rfl (fun _ _ _ => rfl) rfl rfl rfl ?_
        exact zf_ri dX8_resting_98 rfl h
      · replace h := h.2 g
        refine zf_ld (pc' := 91) (v := .inl (x5 ^^^ x7)) dX8_resting_89 rfl (fun _ _ _ => rfl) rfl rfl rfl ?_
        refine zf_ic (v := 5) (pc' := 92) dX8_resting_91 rfl rfl ?_
        refine zf_in (pc' := 93) (S' := [.inl ((x5 ^^^ x7) ^^^ 5)]) dX8_resting_92 rfl (fun _ _ _ => rfl) ?_
        refine zf_goto (tgt := 98) dX8_resting_93 rfl ?_
        exact zf_ri dX8_resting_98 rfl h
    · replace h := h.2 g
      refine zf_ld (pc' := 80) (v := .inl (x5 ^^^ x7)) dX8_resting_78 rfl (fun _ _ _ => rfl) rfl rfl rfl ?_
      refine zf_in (pc' := 81) (S' := [.inl (-(x5 ^^^ x7))]) dX8_resting_80 rfl (fun _ _ _ => rfl) ?_
      refine zf_goto (tgt := 98) dX8_resting_81 rfl ?_
      exact zf_ri dX8_resting_98 rfl h
def wq_205_24 (v1 : Int32) (v2 : Int32) (v3 : Int32) (m : zf_Me) (Q : Int32 → zf_Me → Prop) : Prop := ((¬ v3.toInt = 5 → wq_205_35 v1 v2 v3 m Q) ∧ (v3.toInt = 5 → wp_202 60 m (fun m10 => wq_205_35 v1 v2 v3 m10 Q)))
theorem zq_205_24 {d : Nat} (hd : 3 ≤ d) {v1 : Int32} {v2 : Int32} {Q : Int32 → zf_Me → Prop} {v3 : Int32} {m : zf_Me} (h : wq_205_24 v1 v2 v3 m Q) : zf_W none 0 0 d zt_205 24 [some (.inr (.inr (1, 63))), some (.inl v1), some (.inl v2), some (.inl v3), none] [] m (zf_I Q) := by
  obtain ⟨e, rfl⟩ : ∃ z, d = z + 1 := ⟨d - 1, by omega⟩
  unfold wq_205_24 at h
  refine zf_ld (pc' := 25) (v := .inl v3) dX8_resting_24 rfl (fun _ _ _ => rfl) rfl rfl rfl ?_
  refine zf_ic (v := 5) (pc' := 26) dX8_resting_25 rfl rfl ?_
  refine zf_icmp_ne (tgt := 35) (pc' := 29) dX8_resting_26 rfl rfl (fun g => ?_) (fun g => ?_)
  · replace h := h.1 g
    exact zf_lo (zq_205_35 (by omega) h) ⟨rfl, rfl, rfl, rfl, trivial⟩
  · replace h := h.2 g
    refine zf_ld (pc' := 30) (v := .inr (.inr (1, 63))) dX8_resting_29 rfl (fun _ _ _ => rfl) rfl rfl rfl ?_
    refine zf_bi (v := 60) (pc' := 32) dX8_resting_30 rfl rfl ?_
    refine zf_iv (k := 202) (pc' := 35) (r := []) dX8_resting_32 rfl rfl rfl rfl (by decide) rfl rfl rfl (zr_202 (by omega) h) (zf_kO (fun m10 h => ?_))
    exact zf_lo (zq_205_35 (by omega) h) ⟨rfl, rfl, rfl, rfl, trivial⟩
def wq_205_18 (v1 : Int32) (v2 : Int32) (v3 : Int32) (m : zf_Me) (Q : Int32 → zf_Me → Prop) : Prop := wp_202 50 m (fun m2 => wq_205_24 v1 v2 v3 m2 Q)
theorem zq_205_18 {d : Nat} (hd : 3 ≤ d) {v1 : Int32} {v2 : Int32} {Q : Int32 → zf_Me → Prop} {v3 : Int32} {m : zf_Me} (h : wq_205_18 v1 v2 v3 m Q) : zf_W none 0 0 d zt_205 18 [some (.inr (.inr (1, 63))), some (.inl v1), some (.inl v2), some (.inl v3), none] [] m (zf_I Q) := by
  obtain ⟨e, rfl⟩ : ∃ z, d = z + 1 := ⟨d - 1, by omega⟩
  unfold wq_205_18 at h
  refine zf_ld (pc' := 19) (v := .inr (.inr (1, 63))) dX8_resting_18 rfl (fun _ _ _ => rfl) rfl rfl rfl ?_
  refine zf_bi (v := 50) (pc' := 21) dX8_resting_19 rfl rfl ?_
  refine zf_iv (k := 202) (pc' := 24) (r := []) dX8_resting_21 rfl rfl rfl rfl (by decide) rfl rfl rfl (zr_202 (by omega) h) (zf_kO (fun m2 h => ?_))
  exact zf_lo (zq_205_24 (by omega) h) ⟨rfl, rfl, rfl, rfl, trivial⟩
def wp_205 (v1 : Int32) (v2 : Int32) (m : zf_Me) (Q : Int32 → zf_Me → Prop) : Prop := ((0 ≤ (Int32.toInt v1) ∧ (Int32.toInt v1) < (6 : Int)) ∧ ((((m.1 67 (Int32.toInt v1).toNat)).toInt = 4 → wq_205_18 v1 v2 (m.1 67 (Int32.toInt v1).toNat) m Q) ∧ (¬ ((m.1 67 (Int32.toInt v1).toNat)).toInt = 4 → ((¬ ((m.1 67 (Int32.toInt v1).toNat)).toInt = 6 → wq_205_24 v1 v2 (m.1 67 (Int32.toInt v1).toNat) m Q) ∧ (((m.1 67 (Int32.toInt v1).toNat)).toInt = 6 → wq_205_18 v1 v2 (m.1 67 (Int32.toInt v1).toNat) m Q)))))
theorem zr_205 {d : Nat} (hd : 3 ≤ d) {v1 : Int32} {v2 : Int32} {Q : Int32 → zf_Me → Prop} {m : zf_Me} (h : wp_205 v1 v2 m Q) : zf_M d 205 [.inr (.inr (1, 63)), .inl v1, .inl v2] m (zf_I Q) := by
  unfold wp_205 at h
  refine zf_M_of (Nat.le_of_ble_eq_true rfl) zm_205 (L := [some (.inr (.inr (1, 63))), some (.inl v1), some (.inl v2), none, none]) rfl ?_
  refine zf_ld (pc' := 1) (v := .inr (.inr (1, 63))) dX8_resting_0 rfl (fun _ _ _ => rfl) rfl rfl rfl ?_
  refine zf_gfr (pc' := 4) (b := 67) dX8_resting_1 rfl rfl (by decide) rfl rfl ?_
  refine zf_ld (pc' := 5) (v := .inl v1) dX8_resting_4 rfl (fun _ _ _ => rfl) rfl rfl rfl ?_
  refine zf_ial (pc' := 6) dX8_resting_5 rfl (⟨by decide, rfl⟩ : zf_arr 67 6).1 (⟨by decide, rfl⟩ : zf_arr 67 6).2 h.1 rfl ?_
  replace h := h.2
  refine zf_st (pc' := 7) (L2 := [some (.inr (.inr (1, 63))), some (.inl v1), some (.inl v2), some (.inl (m.1 67 (Int32.toInt v1).toNat)), none]) dX8_resting_6 rfl (fun _ _ _ => rfl) rfl rfl rfl rfl rfl rfl ?_
  refine zf_ld (pc' := 8) (v := .inl (m.1 67 (Int32.toInt v1).toNat)) dX8_resting_7 rfl (fun _ _ _ => rfl) rfl rfl rfl ?_
  refine zf_ic (v := 4) (pc' := 9) dX8_resting_8 rfl rfl ?_
  refine zf_icmp_eq (tgt := 18) (pc' := 12) dX8_resting_9 rfl rfl (fun g => ?_) (fun g => ?_)
  · replace h := h.1 g
    exact zf_lo (zq_205_18 (by omega) h) ⟨rfl, rfl, rfl, rfl, trivial⟩
  · replace h := h.2 g
    refine zf_ld (pc' := 13) (v := .inl (m.1 67 (Int32.toInt v1).toNat)) dX8_resting_12 rfl (fun _ _ _ => rfl) rfl rfl rfl ?_
    refine zf_bi (v := 6) (pc' := 15) dX8_resting_13 rfl rfl ?_
    refine zf_icmp_ne (tgt := 24) (pc' := 18) dX8_resting_15 rfl rfl (fun g => ?_) (fun g => ?_)
    · replace h := h.1 g
      exact zf_lo (zq_205_24 (by omega) h) ⟨rfl, rfl, rfl, rfl, trivial⟩
    · replace h := h.2 g
      exact zf_lo (zq_205_18 (by omega) h) ⟨rfl, rfl, rfl, rfl, trivial⟩
def zt_206 : zx_MT := (8, yX8_act, cX8_act, 4, (some FieldType.int), 3, 0)
theorem zm_206 : zx_m 206 = zt_206 := rfl
theorem dX8_act_r0 : zdcP cX8_act 0 [(.aload_n 0, 1), (.iconst 0, 1), (.putfield 303, 3), (.aload_n 0, 1), (.iload_n 1, 1), (.invokevirtual 119, 3), (.ifCond .eq 12, 3), (.iload_n 2, 1), (.ifCond .lt 8, 3), (.iload_n 2, 1), (.iconst 2, 1), (.if_icmp .le 5, 3), (.iconst 0, 1), (.ireturn, 1), (.iload_n 2, 1), (.ifCond .ne 12, 3)] := zdcA_ok (by decide +kernel)
theorem dX8_act_0 : decode cX8_act 0 = .ok (.aload_n 0, 1) := dX8_act_r0.1
theorem dX8_act_1 : decode cX8_act 1 = .ok (.iconst 0, 1) := dX8_act_r0.2.1
theorem dX8_act_2 : decode cX8_act 2 = .ok (.putfield 303, 3) := dX8_act_r0.2.2.1
theorem dX8_act_5 : decode cX8_act 5 = .ok (.aload_n 0, 1) := dX8_act_r0.2.2.2.1
theorem dX8_act_6 : decode cX8_act 6 = .ok (.iload_n 1, 1) := dX8_act_r0.2.2.2.2.1
theorem dX8_act_7 : decode cX8_act 7 = .ok (.invokevirtual 119, 3) := dX8_act_r0.2.2.2.2.2.1
theorem dX8_act_10 : decode cX8_act 10 = .ok (.ifCond .eq 12, 3) := dX8_act_r0.2.2.2.2.2.2.1
theorem dX8_act_13 : decode cX8_act 13 = .ok (.iload_n 2, 1) := dX8_act_r0.2.2.2.2.2.2.2.1
theorem dX8_act_14 : decode cX8_act 14 = .ok (.ifCond .lt 8, 3) := dX8_act_r0.2.2.2.2.2.2.2.2.1
theorem dX8_act_17 : decode cX8_act 17 = .ok (.iload_n 2, 1) := dX8_act_r0.2.2.2.2.2.2.2.2.2.1
theorem dX8_act_18 : decode cX8_act 18 = .ok (.iconst 2, 1) := dX8_act_r0.2.2.2.2.2.2.2.2.2.2.1
theorem dX8_act_19 : decode cX8_act 19 = .ok (.if_icmp .le 5, 3) := dX8_act_r0.2.2.2.2.2.2.2.2.2.2.2.1
theorem dX8_act_22 : decode cX8_act 22 = .ok (.iconst 0, 1) := dX8_act_r0.2.2.2.2.2.2.2.2.2.2.2.2.1
theorem dX8_act_23 : decode cX8_act 23 = .ok (.ireturn, 1) := dX8_act_r0.2.2.2.2.2.2.2.2.2.2.2.2.2.1
theorem dX8_act_24 : decode cX8_act 24 = .ok (.iload_n 2, 1) := dX8_act_r0.2.2.2.2.2.2.2.2.2.2.2.2.2.2.1
theorem dX8_act_25 : decode cX8_act 25 = .ok (.ifCond .ne 12, 3) := dX8_act_r0.2.2.2.2.2.2.2.2.2.2.2.2.2.2.2.1
theorem dX8_act_r28 : zdcP cX8_act 28 [(.aload_n 0, 1), (.iload_n 1, 1), (.iload_n 3, 1), (.invokevirtual 309, 3), (.goto 23, 3), (.iload_n 2, 1), (.iconst 1, 1), (.if_icmp .ne 12, 3), (.aload_n 0, 1), (.iload_n 1, 1), (.iload_n 3, 1), (.invokevirtual 312, 3), (.goto 9, 3), (.aload_n 0, 1), (.iload_n 1, 1), (.iload_n 3, 1)] := zdcA_ok (by decide +kernel)
theorem dX8_act_28 : decode cX8_act 28 = .ok (.aload_n 0, 1) := dX8_act_r28.1
theorem dX8_act_29 : decode cX8_act 29 = .ok (.iload_n 1, 1) := dX8_act_r28.2.1
theorem dX8_act_30 : decode cX8_act 30 = .ok (.iload_n 3, 1) := dX8_act_r28.2.2.1
theorem dX8_act_31 : decode cX8_act 31 = .ok (.invokevirtual 309, 3) := dX8_act_r28.2.2.2.1
theorem dX8_act_34 : decode cX8_act 34 = .ok (.goto 23, 3) := dX8_act_r28.2.2.2.2.1
theorem dX8_act_37 : decode cX8_act 37 = .ok (.iload_n 2, 1) := dX8_act_r28.2.2.2.2.2.1
theorem dX8_act_38 : decode cX8_act 38 = .ok (.iconst 1, 1) := dX8_act_r28.2.2.2.2.2.2.1
theorem dX8_act_39 : decode cX8_act 39 = .ok (.if_icmp .ne 12, 3) := dX8_act_r28.2.2.2.2.2.2.2.1
theorem dX8_act_42 : decode cX8_act 42 = .ok (.aload_n 0, 1) := dX8_act_r28.2.2.2.2.2.2.2.2.1
theorem dX8_act_43 : decode cX8_act 43 = .ok (.iload_n 1, 1) := dX8_act_r28.2.2.2.2.2.2.2.2.2.1
theorem dX8_act_44 : decode cX8_act 44 = .ok (.iload_n 3, 1) := dX8_act_r28.2.2.2.2.2.2.2.2.2.2.1
theorem dX8_act_45 : decode cX8_act 45 = .ok (.invokevirtual 312, 3) := dX8_act_r28.2.2.2.2.2.2.2.2.2.2.2.1
theorem dX8_act_48 : decode cX8_act 48 = .ok (.goto 9, 3) := dX8_act_r28.2.2.2.2.2.2.2.2.2.2.2.2.1
theorem dX8_act_51 : decode cX8_act 51 = .ok (.aload_n 0, 1) := dX8_act_r28.2.2.2.2.2.2.2.2.2.2.2.2.2.1
theorem dX8_act_52 : decode cX8_act 52 = .ok (.iload_n 1, 1) := dX8_act_r28.2.2.2.2.2.2.2.2.2.2.2.2.2.2.1
theorem dX8_act_53 : decode cX8_act 53 = .ok (.iload_n 3, 1) := dX8_act_r28.2.2.2.2.2.2.2.2.2.2.2.2.2.2.2.1
theorem dX8_act_r54 : zdcP cX8_act 54 [(.invokevirtual 315, 3), (.ireturn, 1)] := zdcA_ok (by decide +kernel)
theorem dX8_act_54 : decode cX8_act 54 = .ok (.invokevirtual 315, 3) := dX8_act_r54.1
theorem dX8_act_57 : decode cX8_act 57 = .ok (.ireturn, 1) := dX8_act_r54.2.1
def wp_206 (v1 : Int32) (v2 : Int32) (v3 : Int32) (m : zf_Me) (Q : Int32 → zf_Me → Prop) : Prop := (∀ m1, m1 = zf_u m 63 51 0 → wp_128 v1 m1 (fun b3 m4 => ((b3 = false → Q 0 m4) ∧ (b3 = true → ((v2.toInt < 0 → Q 0 m4) ∧ (v2.toInt ≥ 0 → ((v2.toInt ≤ 2 → ((¬ v2.toInt = 0 → ((¬ v2.toInt = 1 → wp_205 v1 v3 m4 (fun x5 m6 => Q x5 m6)) ∧ (v2.toInt = 1 → wp_204 v1 v3 m4 (fun x7 m8 => Q x7 m8)))) ∧ (v2.toInt = 0 → wp_203 v1 v3 m4 (fun x9 m10 => Q x9 m10)))) ∧ (v2.toInt > 2 → Q 0 m4))))))))
theorem zr_206 {d : Nat} (hd : 4 ≤ d) {v1 : Int32} {v2 : Int32} {v3 : Int32} {Q : Int32 → zf_Me → Prop} {m : zf_Me} (h : wp_206 v1 v2 v3 m Q) : zf_M d 206 [.inr (.inr (1, 63)), .inl v1, .inl v2, .inl v3] m (zf_I Q) := by
  obtain ⟨e, rfl⟩ : ∃ z, d = z + 1 := ⟨d - 1, by omega⟩
  unfold wp_206 at h
  refine zf_M_of (Nat.le_of_ble_eq_true rfl) zm_206 (L := [some (.inr (.inr (1, 63))), some (.inl v1), some (.inl v2), some (.inl v3)]) rfl ?_
  refine zf_ld (pc' := 1) (v := .inr (.inr (1, 63))) dX8_act_0 rfl (fun _ _ _ => rfl) rfl rfl rfl ?_
  refine zf_ic (v := 0) (pc' := 2) dX8_act_1 rfl rfl ?_
  refine zf_pf (pc' := 5) dX8_act_2 rfl rfl (by decide) rfl rfl rfl (fun m1 e2 => ?_)
  replace h := h m1 e2
  refine zf_ld (pc' := 6) (v := .inr (.inr (1, 63))) dX8_act_5 rfl (fun _ _ _ => rfl) rfl rfl rfl ?_
  refine zf_ld (pc' := 7) (v := .inl v1) dX8_act_6 rfl (fun _ _ _ => rfl) rfl rfl rfl ?_
  refine zf_iv (k := 128) (pc' := 10) (r := []) dX8_act_7 rfl rfl rfl rfl (by decide) rfl rfl rfl (zr_128 (by omega) h) (zf_kB (fun b3 m4 h => ?_))
  refine zf_ib_eq (tgt := 22) (pc' := 13) dX8_act_10 rfl rfl (fun g => ?_) (fun g => ?_)
  · replace h := h.1 g
    refine zf_ic (v := 0) (pc' := 23) dX8_act_22 rfl rfl ?_
    exact zf_ri dX8_act_23 rfl h
  · replace h := h.2 g
    refine zf_ld (pc' := 14) (v := .inl v2) dX8_act_13 rfl (fun _ _ _ => rfl) rfl rfl rfl ?_
    refine zf_if_lt (tgt := 22) (pc' := 17) dX8_act_14 rfl rfl (fun g => ?_) (fun g => ?_)
    · replace h := h.1 g
      refine zf_ic (v := 0) (pc' := 23) dX8_act_22 rfl rfl ?_
      exact zf_ri dX8_act_23 rfl h
    · replace h := h.2 g
      refine zf_ld (pc' := 18) (v := .inl v2) dX8_act_17 rfl (fun _ _ _ => rfl) rfl rfl rfl ?_
      refine zf_ic (v := 2) (pc' := 19) dX8_act_18 rfl rfl ?_
      refine zf_icmp_le (tgt := 24) (pc' := 22) dX8_act_19 rfl rfl (fun g => ?_) (fun g => ?_)
      · replace h := h.1 g
        refine zf_ld (pc' := 25) (v := .inl v2) dX8_act_24 rfl (fun _ _ _ => rfl) rfl rfl rfl ?_
        refine zf_if_ne (tgt := 37) (pc' := 28) dX8_act_25 rfl rfl (fun g => ?_) (fun g => ?_)
        · replace h := h.1 g
          refine zf_ld (pc' := 38) (v := .inl v2) dX8_act_37 rfl (fun _ _ _ => rfl) rfl rfl rfl ?_
          refine zf_ic (v := 1) (pc' := 39) dX8_act_38 rfl rfl ?_
          refine zf_icmp_ne (tgt := 51) (pc' := 42) dX8_act_39 rfl rfl (fun g => ?_) (fun g => ?_)
          · replace h := h.1 g
            refine zf_ld (pc' := 52) (v := .inr (.inr (1, 63))) dX8_act_51 rfl (fun _ _ _ => rfl) rfl rfl rfl ?_
            refine zf_ld (pc' := 53) (v := .inl v1) dX8_act_52 rfl (fun _ _ _ => rfl) rfl rfl rfl ?_
            refine zf_ld (pc' := 54) (v := .inl v3) dX8_act_53 rfl (fun _ _ _ => rfl) rfl rfl rfl ?_
            refine zf_iv (k := 205) (pc' := 57) (r := []) dX8_act_54 rfl rfl rfl rfl (by decide) rfl rfl rfl (zr_205 (by omega) h) (zf_kI (fun x5 m6 h => ?_))
            exact zf_ri dX8_act_57 rfl h
          · replace h := h.2 g
            refine zf_ld (pc' := 43) (v := .inr (.inr (1, 63))) dX8_act_42 rfl (fun _ _ _ => rfl) rfl rfl rfl ?_
            refine zf_ld (pc' := 44) (v := .inl v1) dX8_act_43 rfl (fun _ _ _ => rfl) rfl rfl rfl ?_
            refine zf_ld (pc' := 45) (v := .inl v3) dX8_act_44 rfl (fun _ _ _ => rfl) rfl rfl rfl ?_
            refine zf_iv (k := 204) (pc' := 48) (r := []) dX8_act_45 rfl rfl rfl rfl (by decide) rfl rfl rfl (zr_204 (by omega) h) (zf_kI (fun x7 m8 h => ?_))
            refine zf_goto (tgt := 57) dX8_act_48 rfl ?_
            exact zf_ri dX8_act_57 rfl h
        · replace h := h.2 g
          refine zf_ld (pc' := 29) (v := .inr (.inr (1, 63))) dX8_act_28 rfl (fun _ _ _ => rfl) rfl rfl rfl ?_
          refine zf_ld (pc' := 30) (v := .inl v1) dX8_act_29 rfl (fun _ _ _ => rfl) rfl rfl rfl ?_
          refine zf_ld (pc' := 31) (v := .inl v3) dX8_act_30 rfl (fun _ _ _ => rfl) rfl rfl rfl ?_
          refine zf_iv (k := 203) (pc' := 34) (r := []) dX8_act_31 rfl rfl rfl rfl (by decide) rfl rfl rfl (zr_203 (by omega) h) (zf_kI (fun x9 m10 h => ?_))
          refine zf_goto (tgt := 57) dX8_act_34 rfl ?_
          exact zf_ri dX8_act_57 rfl h
      · replace h := h.2 g
        refine zf_ic (v := 0) (pc' := 23) dX8_act_22 rfl rfl ?_
        exact zf_ri dX8_act_23 rfl h
def zt_207 : zx_MT := (8, yX8_trace, cX8_trace, 2, (some FieldType.int), 1, 0)
theorem zm_207 : zx_m 207 = zt_207 := rfl
theorem dX8_trace_r0 : zdcP cX8_trace 0 [(.iload_n 1, 1), (.ifCond .lt 26, 3), (.iload_n 1, 1), (.bipush 20, 2), (.if_icmp .ge 20, 3), (.iload_n 1, 1), (.aload_n 0, 1), (.getfield 303, 3), (.if_icmp .ge 12, 3), (.aload_n 0, 1), (.getfield 102, 3), (.iload_n 1, 1), (.iaload, 1), (.goto 4, 3), (.iconst (-1), 1), (.ireturn, 1)] := zdcA_ok (by decide +kernel)
theorem dX8_trace_0 : decode cX8_trace 0 = .ok (.iload_n 1, 1) := dX8_trace_r0.1
theorem dX8_trace_1 : decode cX8_trace 1 = .ok (.ifCond .lt 26, 3) := dX8_trace_r0.2.1
theorem dX8_trace_4 : decode cX8_trace 4 = .ok (.iload_n 1, 1) := dX8_trace_r0.2.2.1
theorem dX8_trace_5 : decode cX8_trace 5 = .ok (.bipush 20, 2) := dX8_trace_r0.2.2.2.1
theorem dX8_trace_7 : decode cX8_trace 7 = .ok (.if_icmp .ge 20, 3) := dX8_trace_r0.2.2.2.2.1
theorem dX8_trace_10 : decode cX8_trace 10 = .ok (.iload_n 1, 1) := dX8_trace_r0.2.2.2.2.2.1
theorem dX8_trace_11 : decode cX8_trace 11 = .ok (.aload_n 0, 1) := dX8_trace_r0.2.2.2.2.2.2.1
theorem dX8_trace_12 : decode cX8_trace 12 = .ok (.getfield 303, 3) := dX8_trace_r0.2.2.2.2.2.2.2.1
theorem dX8_trace_15 : decode cX8_trace 15 = .ok (.if_icmp .ge 12, 3) := dX8_trace_r0.2.2.2.2.2.2.2.2.1
theorem dX8_trace_18 : decode cX8_trace 18 = .ok (.aload_n 0, 1) := dX8_trace_r0.2.2.2.2.2.2.2.2.2.1
theorem dX8_trace_19 : decode cX8_trace 19 = .ok (.getfield 102, 3) := dX8_trace_r0.2.2.2.2.2.2.2.2.2.2.1
theorem dX8_trace_22 : decode cX8_trace 22 = .ok (.iload_n 1, 1) := dX8_trace_r0.2.2.2.2.2.2.2.2.2.2.2.1
theorem dX8_trace_23 : decode cX8_trace 23 = .ok (.iaload, 1) := dX8_trace_r0.2.2.2.2.2.2.2.2.2.2.2.2.1
theorem dX8_trace_24 : decode cX8_trace 24 = .ok (.goto 4, 3) := dX8_trace_r0.2.2.2.2.2.2.2.2.2.2.2.2.2.1
theorem dX8_trace_27 : decode cX8_trace 27 = .ok (.iconst (-1), 1) := dX8_trace_r0.2.2.2.2.2.2.2.2.2.2.2.2.2.2.1
theorem dX8_trace_28 : decode cX8_trace 28 = .ok (.ireturn, 1) := dX8_trace_r0.2.2.2.2.2.2.2.2.2.2.2.2.2.2.2.1
def wp_207 (v1 : Int32) (m : zf_Me) (Q : Int32 → zf_Me → Prop) : Prop := ((v1.toInt < 0 → Q (-1) m) ∧ (v1.toInt ≥ 0 → ((v1.toInt ≥ 20 → Q (-1) m) ∧ (v1.toInt < 20 → ((v1.toInt ≥ ((m.1 63 51)).toInt → Q (-1) m) ∧ (v1.toInt < ((m.1 63 51)).toInt → ((0 ≤ (Int32.toInt v1) ∧ (Int32.toInt v1) < (20 : Int)) ∧ Q (m.1 85 (Int32.toInt v1).toNat) m)))))))
theorem zr_207 {d : Nat} (hd : 0 ≤ d) {v1 : Int32} {Q : Int32 → zf_Me → Prop} {m : zf_Me} (h : wp_207 v1 m Q) : zf_M d 207 [.inr (.inr (1, 63)), .inl v1] m (zf_I Q) := by
  unfold wp_207 at h
  refine zf_M_of (Nat.le_of_ble_eq_true rfl) zm_207 (L := [some (.inr (.inr (1, 63))), some (.inl v1)]) rfl ?_
  refine zf_ld (pc' := 1) (v := .inl v1) dX8_trace_0 rfl (fun _ _ _ => rfl) rfl rfl rfl ?_
  refine zf_if_lt (tgt := 27) (pc' := 4) dX8_trace_1 rfl rfl (fun g => ?_) (fun g => ?_)
  · replace h := h.1 g
    refine zf_ic (v := (-1)) (pc' := 28) dX8_trace_27 rfl rfl ?_
    exact zf_ri dX8_trace_28 rfl h
  · replace h := h.2 g
    refine zf_ld (pc' := 5) (v := .inl v1) dX8_trace_4 rfl (fun _ _ _ => rfl) rfl rfl rfl ?_
    refine zf_bi (v := 20) (pc' := 7) dX8_trace_5 rfl rfl ?_
    refine zf_icmp_ge (tgt := 27) (pc' := 10) dX8_trace_7 rfl rfl (fun g => ?_) (fun g => ?_)
    · replace h := h.1 g
      refine zf_ic (v := (-1)) (pc' := 28) dX8_trace_27 rfl rfl ?_
      exact zf_ri dX8_trace_28 rfl h
    · replace h := h.2 g
      refine zf_ld (pc' := 11) (v := .inl v1) dX8_trace_10 rfl (fun _ _ _ => rfl) rfl rfl rfl ?_
      refine zf_ld (pc' := 12) (v := .inr (.inr (1, 63))) dX8_trace_11 rfl (fun _ _ _ => rfl) rfl rfl rfl ?_
      refine zf_gfi (pc' := 15) dX8_trace_12 rfl rfl (by decide) rfl rfl ?_
      refine zf_icmp_ge (tgt := 27) (pc' := 18) dX8_trace_15 rfl rfl (fun g => ?_) (fun g => ?_)
      · replace h := h.1 g
        refine zf_ic (v := (-1)) (pc' := 28) dX8_trace_27 rfl rfl ?_
        exact zf_ri dX8_trace_28 rfl h
      · replace h := h.2 g
        refine zf_ld (pc' := 19) (v := .inr (.inr (1, 63))) dX8_trace_18 rfl (fun _ _ _ => rfl) rfl rfl rfl ?_
        refine zf_gfr (pc' := 22) (b := 85) dX8_trace_19 rfl rfl (by decide) rfl rfl ?_
        refine zf_ld (pc' := 23) (v := .inl v1) dX8_trace_22 rfl (fun _ _ _ => rfl) rfl rfl rfl ?_
        refine zf_ial (pc' := 24) dX8_trace_23 rfl (⟨by decide, rfl⟩ : zf_arr 85 20).1 (⟨by decide, rfl⟩ : zf_arr 85 20).2 h.1 rfl ?_
        replace h := h.2
        refine zf_goto (tgt := 28) dX8_trace_24 rfl ?_
        exact zf_ri dX8_trace_28 rfl h
def zt_208 : zx_MT := (8, yX8_image, cX8_image, 1, (some FieldType.int), 0, 0)
theorem zm_208 : zx_m 208 = zt_208 := rfl
theorem dX8_image_r0 : zdcP cX8_image 0 [(.aload_n 0, 1), (.iconst 1, 1), (.putfield 318, 3), (.aload_n 0, 1), (.aload_n 0, 1), (.getfield 87, 3), (.iconst 0, 1), (.iconst 0, 1), (.invokevirtual 213, 3), (.aload_n 0, 1), (.getfield 105, 3), (.ireturn, 1)] := zdcA_ok (by decide +kernel)
theorem dX8_image_0 : decode cX8_image 0 = .ok (.aload_n 0, 1) := dX8_image_r0.1
theorem dX8_image_1 : decode cX8_image 1 = .ok (.iconst 1, 1) := dX8_image_r0.2.1
theorem dX8_image_2 : decode cX8_image 2 = .ok (.putfield 318, 3) := dX8_image_r0.2.2.1
theorem dX8_image_5 : decode cX8_image 5 = .ok (.aload_n 0, 1) := dX8_image_r0.2.2.2.1
theorem dX8_image_6 : decode cX8_image 6 = .ok (.aload_n 0, 1) := dX8_image_r0.2.2.2.2.1
theorem dX8_image_7 : decode cX8_image 7 = .ok (.getfield 87, 3) := dX8_image_r0.2.2.2.2.2.1
theorem dX8_image_10 : decode cX8_image 10 = .ok (.iconst 0, 1) := dX8_image_r0.2.2.2.2.2.2.1
theorem dX8_image_11 : decode cX8_image 11 = .ok (.iconst 0, 1) := dX8_image_r0.2.2.2.2.2.2.2.1
theorem dX8_image_12 : decode cX8_image 12 = .ok (.invokevirtual 213, 3) := dX8_image_r0.2.2.2.2.2.2.2.2.1
theorem dX8_image_15 : decode cX8_image 15 = .ok (.aload_n 0, 1) := dX8_image_r0.2.2.2.2.2.2.2.2.2.1
theorem dX8_image_16 : decode cX8_image 16 = .ok (.getfield 105, 3) := dX8_image_r0.2.2.2.2.2.2.2.2.2.2.1
theorem dX8_image_19 : decode cX8_image 19 = .ok (.ireturn, 1) := dX8_image_r0.2.2.2.2.2.2.2.2.2.2.2.1
def wp_208 (m : zf_Me) (Q : Int32 → zf_Me → Prop) : Prop := (∀ m1, m1 = zf_u m 63 52 1 → wp_161 80 90 0 0 m1 (fun m4 => Q (m4.1 63 1) m4))
theorem zr_208 {d : Nat} (hd : 2 ≤ d) {Q : Int32 → zf_Me → Prop} {m : zf_Me} (h : wp_208 m Q) : zf_M d 208 [.inr (.inr (1, 63))] m (zf_I Q) := by
  obtain ⟨e, rfl⟩ : ∃ z, d = z + 1 := ⟨d - 1, by omega⟩
  unfold wp_208 at h
  refine zf_M_of (Nat.le_of_ble_eq_true rfl) zm_208 (L := [some (.inr (.inr (1, 63)))]) rfl ?_
  refine zf_ld (pc' := 1) (v := .inr (.inr (1, 63))) dX8_image_0 rfl (fun _ _ _ => rfl) rfl rfl rfl ?_
  refine zf_ic (v := 1) (pc' := 2) dX8_image_1 rfl rfl ?_
  refine zf_pf (pc' := 5) dX8_image_2 rfl rfl (by decide) rfl rfl rfl (fun m1 e2 => ?_)
  replace h := h m1 e2
  refine zf_ld (pc' := 6) (v := .inr (.inr (1, 63))) dX8_image_5 rfl (fun _ _ _ => rfl) rfl rfl rfl ?_
  refine zf_ld (pc' := 7) (v := .inr (.inr (1, 63))) dX8_image_6 rfl (fun _ _ _ => rfl) rfl rfl rfl ?_
  refine zf_gfr (pc' := 10) (b := 80) dX8_image_7 rfl rfl (by decide) rfl rfl ?_
  refine zf_ic (v := 0) (pc' := 11) dX8_image_10 rfl rfl ?_
  refine zf_ic (v := 0) (pc' := 12) dX8_image_11 rfl rfl ?_
  refine zf_iv (k := 161) (pc' := 15) (r := []) dX8_image_12 rfl rfl rfl rfl (by decide) rfl rfl rfl (zr_161 (by omega) (⟨by decide, rfl⟩ : zf_arr 80 90) h) (zf_kO (fun m4 h => ?_))
  refine zf_ld (pc' := 16) (v := .inr (.inr (1, 63))) dX8_image_15 rfl (fun _ _ _ => rfl) rfl rfl rfl ?_
  refine zf_gfi (pc' := 19) dX8_image_16 rfl rfl (by decide) rfl rfl ?_
  exact zf_ri dX8_image_19 rfl h
def zt_209 : zx_MT := (8, yX8_restore, cX8_restore, 2, (some FieldType.int), 0, 0)
theorem zm_209 : zx_m 209 = zt_209 := rfl
theorem dX8_restore_r0 : zdcP cX8_restore 0 [(.aload_n 0, 1), (.getfield 318, 3), (.ifCond .ne 10, 3), (.aload_n 0, 1), (.bipush (-6), 2), (.invokevirtual 115, 3), (.ireturn, 1), (.aload_n 0, 1), (.aload_n 0, 1), (.getfield 87, 3), (.iconst 0, 1), (.iconst 1, 1), (.invokevirtual 213, 3), (.iconst 0, 1), (.istore_n 1, 1), (.iload_n 1, 1)] := zdcA_ok (by decide +kernel)
theorem dX8_restore_0 : decode cX8_restore 0 = .ok (.aload_n 0, 1) := dX8_restore_r0.1
theorem dX8_restore_1 : decode cX8_restore 1 = .ok (.getfield 318, 3) := dX8_restore_r0.2.1
theorem dX8_restore_4 : decode cX8_restore 4 = .ok (.ifCond .ne 10, 3) := dX8_restore_r0.2.2.1
theorem dX8_restore_7 : decode cX8_restore 7 = .ok (.aload_n 0, 1) := dX8_restore_r0.2.2.2.1
theorem dX8_restore_8 : decode cX8_restore 8 = .ok (.bipush (-6), 2) := dX8_restore_r0.2.2.2.2.1
theorem dX8_restore_10 : decode cX8_restore 10 = .ok (.invokevirtual 115, 3) := dX8_restore_r0.2.2.2.2.2.1
theorem dX8_restore_13 : decode cX8_restore 13 = .ok (.ireturn, 1) := dX8_restore_r0.2.2.2.2.2.2.1
theorem dX8_restore_14 : decode cX8_restore 14 = .ok (.aload_n 0, 1) := dX8_restore_r0.2.2.2.2.2.2.2.1
theorem dX8_restore_15 : decode cX8_restore 15 = .ok (.aload_n 0, 1) := dX8_restore_r0.2.2.2.2.2.2.2.2.1
theorem dX8_restore_16 : decode cX8_restore 16 = .ok (.getfield 87, 3) := dX8_restore_r0.2.2.2.2.2.2.2.2.2.1
theorem dX8_restore_19 : decode cX8_restore 19 = .ok (.iconst 0, 1) := dX8_restore_r0.2.2.2.2.2.2.2.2.2.2.1
theorem dX8_restore_20 : decode cX8_restore 20 = .ok (.iconst 1, 1) := dX8_restore_r0.2.2.2.2.2.2.2.2.2.2.2.1
theorem dX8_restore_21 : decode cX8_restore 21 = .ok (.invokevirtual 213, 3) := dX8_restore_r0.2.2.2.2.2.2.2.2.2.2.2.2.1
theorem dX8_restore_24 : decode cX8_restore 24 = .ok (.iconst 0, 1) := dX8_restore_r0.2.2.2.2.2.2.2.2.2.2.2.2.2.1
theorem dX8_restore_25 : decode cX8_restore 25 = .ok (.istore_n 1, 1) := dX8_restore_r0.2.2.2.2.2.2.2.2.2.2.2.2.2.2.1
theorem dX8_restore_26 : decode cX8_restore 26 = .ok (.iload_n 1, 1) := dX8_restore_r0.2.2.2.2.2.2.2.2.2.2.2.2.2.2.2.1
theorem dX8_restore_r27 : zdcP cX8_restore 27 [(.bipush 8, 2), (.if_icmp .ge 39, 3), (.aload_n 0, 1), (.getfield 56, 3), (.iload_n 1, 1), (.iaload, 1), (.iconst 2, 1), (.if_icmp .ne 23, 3), (.aload_n 0, 1), (.getfield 65, 3), (.iload_n 1, 1), (.iaload, 1), (.aload_n 0, 1), (.getfield 105, 3), (.if_icmp .lt 10, 3), (.aload_n 0, 1)] := zdcA_ok (by decide +kernel)
theorem dX8_restore_27 : decode cX8_restore 27 = .ok (.bipush 8, 2) := dX8_restore_r27.1
theorem dX8_restore_29 : decode cX8_restore 29 = .ok (.if_icmp .ge 39, 3) := dX8_restore_r27.2.1
theorem dX8_restore_32 : decode cX8_restore 32 = .ok (.aload_n 0, 1) := dX8_restore_r27.2.2.1
theorem dX8_restore_33 : decode cX8_restore 33 = .ok (.getfield 56, 3) := dX8_restore_r27.2.2.2.1
theorem dX8_restore_36 : decode cX8_restore 36 = .ok (.iload_n 1, 1) := dX8_restore_r27.2.2.2.2.1
theorem dX8_restore_37 : decode cX8_restore 37 = .ok (.iaload, 1) := dX8_restore_r27.2.2.2.2.2.1
theorem dX8_restore_38 : decode cX8_restore 38 = .ok (.iconst 2, 1) := dX8_restore_r27.2.2.2.2.2.2.1
theorem dX8_restore_39 : decode cX8_restore 39 = .ok (.if_icmp .ne 23, 3) := dX8_restore_r27.2.2.2.2.2.2.2.1
theorem dX8_restore_42 : decode cX8_restore 42 = .ok (.aload_n 0, 1) := dX8_restore_r27.2.2.2.2.2.2.2.2.1
theorem dX8_restore_43 : decode cX8_restore 43 = .ok (.getfield 65, 3) := dX8_restore_r27.2.2.2.2.2.2.2.2.2.1
theorem dX8_restore_46 : decode cX8_restore 46 = .ok (.iload_n 1, 1) := dX8_restore_r27.2.2.2.2.2.2.2.2.2.2.1
theorem dX8_restore_47 : decode cX8_restore 47 = .ok (.iaload, 1) := dX8_restore_r27.2.2.2.2.2.2.2.2.2.2.2.1
theorem dX8_restore_48 : decode cX8_restore 48 = .ok (.aload_n 0, 1) := dX8_restore_r27.2.2.2.2.2.2.2.2.2.2.2.2.1
theorem dX8_restore_49 : decode cX8_restore 49 = .ok (.getfield 105, 3) := dX8_restore_r27.2.2.2.2.2.2.2.2.2.2.2.2.2.1
theorem dX8_restore_52 : decode cX8_restore 52 = .ok (.if_icmp .lt 10, 3) := dX8_restore_r27.2.2.2.2.2.2.2.2.2.2.2.2.2.2.1
theorem dX8_restore_55 : decode cX8_restore 55 = .ok (.aload_n 0, 1) := dX8_restore_r27.2.2.2.2.2.2.2.2.2.2.2.2.2.2.2.1
theorem dX8_restore_r56 : zdcP cX8_restore 56 [(.getfield 56, 3), (.iload_n 1, 1), (.iconst 0, 1), (.iastore, 1), (.iinc 1 1, 3), (.goto (-39), 3), (.aload_n 0, 1), (.getfield 105, 3), (.ireturn, 1)] := zdcA_ok (by decide +kernel)
theorem dX8_restore_56 : decode cX8_restore 56 = .ok (.getfield 56, 3) := dX8_restore_r56.1
theorem dX8_restore_59 : decode cX8_restore 59 = .ok (.iload_n 1, 1) := dX8_restore_r56.2.1
theorem dX8_restore_60 : decode cX8_restore 60 = .ok (.iconst 0, 1) := dX8_restore_r56.2.2.1
theorem dX8_restore_61 : decode cX8_restore 61 = .ok (.iastore, 1) := dX8_restore_r56.2.2.2.1
theorem dX8_restore_62 : decode cX8_restore 62 = .ok (.iinc 1 1, 3) := dX8_restore_r56.2.2.2.2.1
theorem dX8_restore_65 : decode cX8_restore 65 = .ok (.goto (-39), 3) := dX8_restore_r56.2.2.2.2.2.1
theorem dX8_restore_68 : decode cX8_restore 68 = .ok (.aload_n 0, 1) := dX8_restore_r56.2.2.2.2.2.2.1
theorem dX8_restore_69 : decode cX8_restore 69 = .ok (.getfield 105, 3) := dX8_restore_r56.2.2.2.2.2.2.2.1
theorem dX8_restore_72 : decode cX8_restore 72 = .ok (.ireturn, 1) := dX8_restore_r56.2.2.2.2.2.2.2.2.1
def wq_209_26 (Q : Int32 → zf_Me → Prop) : Nat → Int32 → zf_Me → Prop
  | 0, _, _ => False
  | n + 1, v1, m => ((v1.toInt ≥ 8 → Q (m.1 63 1) m) ∧ (v1.toInt < 8 → ((0 ≤ (Int32.toInt v1) ∧ (Int32.toInt v1) < (8 : Int)) ∧ ((¬ ((m.1 70 (Int32.toInt v1).toNat)).toInt = 2 → wq_209_26 Q n (v1 + 1) m) ∧ (((m.1 70 (Int32.toInt v1).toNat)).toInt = 2 → ((0 ≤ (Int32.toInt v1) ∧ (Int32.toInt v1) < (8 : Int)) ∧ ((((m.1 73 (Int32.toInt v1).toNat)).toInt < ((m.1 63 1)).toInt → wq_209_26 Q n (v1 + 1) m) ∧ (((m.1 73 (Int32.toInt v1).toNat)).toInt ≥ ((m.1 63 1)).toInt → ((0 ≤ (Int32.toInt v1) ∧ (Int32.toInt v1) < (8 : Int)) ∧ ∀ m3, m3 = zf_u m 70 (Int32.toInt v1).toNat 0 → wq_209_26 Q n (v1 + 1) m3)))))))))
theorem zq_209_26 {d : Nat} (hd : 2 ≤ d) {Q : Int32 → zf_Me → Prop} : ∀ (n : Nat) (v1 : Int32) (m : zf_Me), wq_209_26 Q n v1 m → zf_W none 0 0 d zt_209 26 [some (.inr (.inr (1, 63))), some (.inl v1)] [] m (zf_I Q) := by
  intro n
  induction n with
  | zero =>
    intro v1 m h
    exact h.elim
  | succ n ih =>
    intro v1 m h
    unfold wq_209_26 at h
    refine zf_ld (pc' := 27) (v := .inl v1) dX8_restore_26 rfl (fun _ _ _ => rfl) rfl rfl rfl ?_
    refine zf_bi (v := 8) (pc' := 29) dX8_restore_27 rfl rfl ?_
    refine zf_icmp_ge (tgt := 68) (pc' := 32) dX8_restore_29 rfl rfl (fun g => ?_) (fun g => ?_)
    · replace h := h.1 g
      refine zf_ld (pc' := 69) (v := .inr (.inr (1, 63))) dX8_restore_68 rfl (fun _ _ _ => rfl) rfl rfl rfl ?_
      refine zf_gfi (pc' := 72) dX8_restore_69 rfl rfl (by decide) rfl rfl ?_
      exact zf_ri dX8_restore_72 rfl h
    · replace h := h.2 g
      refine zf_ld (pc' := 33) (v := .inr (.inr (1, 63))) dX8_restore_32 rfl (fun _ _ _ => rfl) rfl rfl rfl ?_
      refine zf_gfr (pc' := 36) (b := 70) dX8_restore_33 rfl rfl (by decide) rfl rfl ?_
      refine zf_ld (pc' := 37) (v := .inl v1) dX8_restore_36 rfl (fun _ _ _ => rfl) rfl rfl rfl ?_
      refine zf_ial (pc' := 38) dX8_restore_37 rfl (⟨by decide, rfl⟩ : zf_arr 70 8).1 (⟨by decide, rfl⟩ : zf_arr 70 8).2 h.1 rfl ?_
      replace h := h.2
      refine zf_ic (v := 2) (pc' := 39) dX8_restore_38 rfl rfl ?_
      refine zf_icmp_ne (tgt := 62) (pc' := 42) dX8_restore_39 rfl rfl (fun g => ?_) (fun g => ?_)
      · replace h := h.1 g
        refine zf_ii (y := (v1 + 1)) (L2 := [some (.inr (.inr (1, 63))), some (.inl (v1 + 1))]) (pc' := 65) dX8_restore_62 rfl rfl rfl rfl rfl ?_
        refine zf_goto (tgt := 26) dX8_restore_65 rfl ?_
        exact zf_lo (ih _ _ h) ⟨rfl, rfl, trivial⟩
      · replace h := h.2 g
        refine zf_ld (pc' := 43) (v := .inr (.inr (1, 63))) dX8_restore_42 rfl (fun _ _ _ => rfl) rfl rfl rfl ?_
        refine zf_gfr (pc' := 46) (b := 73) dX8_restore_43 rfl rfl (by decide) rfl rfl ?_
        refine zf_ld (pc' := 47) (v := .inl v1) dX8_restore_46 rfl (fun _ _ _ => rfl) rfl rfl rfl ?_
        refine zf_ial (pc' := 48) dX8_restore_47 rfl (⟨by decide, rfl⟩ : zf_arr 73 8).1 (⟨by decide, rfl⟩ : zf_arr 73 8).2 h.1 rfl ?_
        replace h := h.2
        refine zf_ld (pc' := 49) (v := .inr (.inr (1, 63))) dX8_restore_48 rfl (fun _ _ _ => rfl) rfl rfl rfl ?_
        refine zf_gfi (pc' := 52) dX8_restore_49 rfl rfl (by decide) rfl rfl ?_
        refine zf_icmp_lt (tgt := 62) (pc' := 55) dX8_restore_52 rfl rfl (fun g => ?_) (fun g => ?_)
        · replace h := h.1 g
          refine zf_ii (y := (v1 + 1)) (L2 := [some (.inr (.inr (1, 63))), some (.inl (v1 + 1))]) (pc' := 65) dX8_restore_62 rfl rfl rfl rfl rfl ?_
          refine zf_goto (tgt := 26) dX8_restore_65 rfl ?_
          exact zf_lo (ih _ _ h) ⟨rfl, rfl, trivial⟩
        · replace h := h.2 g
          refine zf_ld (pc' := 56) (v := .inr (.inr (1, 63))) dX8_restore_55 rfl (fun _ _ _ => rfl) rfl rfl rfl ?_
          refine zf_gfr (pc' := 59) (b := 70) dX8_restore_56 rfl rfl (by decide) rfl rfl ?_
          refine zf_ld (pc' := 60) (v := .inl v1) dX8_restore_59 rfl (fun _ _ _ => rfl) rfl rfl rfl ?_
          refine zf_ic (v := 0) (pc' := 61) dX8_restore_60 rfl rfl ?_
          refine zf_ias (pc' := 62) dX8_restore_61 rfl (⟨by decide, rfl⟩ : zf_arr 70 8).1 (⟨by decide, rfl⟩ : zf_arr 70 8).2 h.1 rfl (fun m3 e4 => ?_)
          replace h := h.2 m3 e4
          refine zf_ii (y := (v1 + 1)) (L2 := [some (.inr (.inr (1, 63))), some (.inl (v1 + 1))]) (pc' := 65) dX8_restore_62 rfl rfl rfl rfl rfl ?_
          refine zf_goto (tgt := 26) dX8_restore_65 rfl ?_
          exact zf_lo (ih _ _ h) ⟨rfl, rfl, trivial⟩
def wp_209 (m : zf_Me) (Q : Int32 → zf_Me → Prop) : Prop := ((¬ ((m.1 63 52)).toInt = 0 → wp_161 80 90 0 1 m (fun m2 => (∃ n26, wq_209_26 Q n26 0 m2))) ∧ (((m.1 63 52)).toInt = 0 → wp_125 (-6) m (fun x5 m6 => Q x5 m6)))
theorem zr_209 {d : Nat} (hd : 2 ≤ d) {Q : Int32 → zf_Me → Prop} {m : zf_Me} (h : wp_209 m Q) : zf_M d 209 [.inr (.inr (1, 63))] m (zf_I Q) := by
  obtain ⟨e, rfl⟩ : ∃ z, d = z + 1 := ⟨d - 1, by omega⟩
  unfold wp_209 at h
  refine zf_M_of (Nat.le_of_ble_eq_true rfl) zm_209 (L := [some (.inr (.inr (1, 63))), none]) rfl ?_
  refine zf_ld (pc' := 1) (v := .inr (.inr (1, 63))) dX8_restore_0 rfl (fun _ _ _ => rfl) rfl rfl rfl ?_
  refine zf_gfi (pc' := 4) dX8_restore_1 rfl rfl (by decide) rfl rfl ?_
  refine zf_if_ne (tgt := 14) (pc' := 7) dX8_restore_4 rfl rfl (fun g => ?_) (fun g => ?_)
  · replace h := h.1 g
    refine zf_ld (pc' := 15) (v := .inr (.inr (1, 63))) dX8_restore_14 rfl (fun _ _ _ => rfl) rfl rfl rfl ?_
    refine zf_ld (pc' := 16) (v := .inr (.inr (1, 63))) dX8_restore_15 rfl (fun _ _ _ => rfl) rfl rfl rfl ?_
    refine zf_gfr (pc' := 19) (b := 80) dX8_restore_16 rfl rfl (by decide) rfl rfl ?_
    refine zf_ic (v := 0) (pc' := 20) dX8_restore_19 rfl rfl ?_
    refine zf_ic (v := 1) (pc' := 21) dX8_restore_20 rfl rfl ?_
    refine zf_iv (k := 161) (pc' := 24) (r := []) dX8_restore_21 rfl rfl rfl rfl (by decide) rfl rfl rfl (zr_161 (by omega) (⟨by decide, rfl⟩ : zf_arr 80 90) h) (zf_kO (fun m2 h => ?_))
    refine zf_ic (v := 0) (pc' := 25) dX8_restore_24 rfl rfl ?_
    refine zf_st (pc' := 26) (L2 := [some (.inr (.inr (1, 63))), some (.inl 0)]) dX8_restore_25 rfl (fun _ _ _ => rfl) rfl rfl rfl rfl rfl rfl ?_
    obtain ⟨n26, h⟩ := h
    exact zf_lo (zq_209_26 (by omega) n26 _ _ h) ⟨rfl, rfl, trivial⟩
  · replace h := h.2 g
    refine zf_ld (pc' := 8) (v := .inr (.inr (1, 63))) dX8_restore_7 rfl (fun _ _ _ => rfl) rfl rfl rfl ?_
    refine zf_bi (v := (-6)) (pc' := 10) dX8_restore_8 rfl rfl ?_
    refine zf_iv (k := 125) (pc' := 13) (r := []) dX8_restore_10 rfl rfl rfl rfl (by decide) rfl rfl rfl (zr_125 (by omega) h) (zf_kI (fun x5 m6 h => ?_))
    exact zf_ri dX8_restore_13 rfl h
