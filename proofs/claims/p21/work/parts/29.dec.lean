/-! part 29: methods 34..: laid by wip/flat/dec.py -/
def zt_34 : zx_MT := (4, yX4_tellAsked, cX4_tellAsked, 3, none, 1, 0)
theorem zm_34 : zx_m 34 = zt_34 := rfl
theorem dX4_tellAsked_r0 : zdcP cX4_tellAsked 0 [(.iload_n 1, 1), (.ifCond .lt 8, 3), (.iload_n 1, 1), (.iconst 5, 1), (.if_icmp .lt 4, 3), (.return_, 1), (.aload_n 0, 1), (.getstatic 126, 3), (.iload_n 1, 1), (.iaload, 1), (.getstatic 129, 3), (.iload_n 1, 1), (.iaload, 1), (.invokevirtual 103, 3), (.istore_n 2, 1), (.iload_n 2, 1)] := zdcA_ok (by decide +kernel)
theorem dX4_tellAsked_0 : decode cX4_tellAsked 0 = .ok (.iload_n 1, 1) := dX4_tellAsked_r0.1
theorem dX4_tellAsked_1 : decode cX4_tellAsked 1 = .ok (.ifCond .lt 8, 3) := dX4_tellAsked_r0.2.1
theorem dX4_tellAsked_4 : decode cX4_tellAsked 4 = .ok (.iload_n 1, 1) := dX4_tellAsked_r0.2.2.1
theorem dX4_tellAsked_5 : decode cX4_tellAsked 5 = .ok (.iconst 5, 1) := dX4_tellAsked_r0.2.2.2.1
theorem dX4_tellAsked_6 : decode cX4_tellAsked 6 = .ok (.if_icmp .lt 4, 3) := dX4_tellAsked_r0.2.2.2.2.1
theorem dX4_tellAsked_9 : decode cX4_tellAsked 9 = .ok (.return_, 1) := dX4_tellAsked_r0.2.2.2.2.2.1
theorem dX4_tellAsked_10 : decode cX4_tellAsked 10 = .ok (.aload_n 0, 1) := dX4_tellAsked_r0.2.2.2.2.2.2.1
theorem dX4_tellAsked_11 : decode cX4_tellAsked 11 = .ok (.getstatic 126, 3) := dX4_tellAsked_r0.2.2.2.2.2.2.2.1
theorem dX4_tellAsked_14 : decode cX4_tellAsked 14 = .ok (.iload_n 1, 1) := dX4_tellAsked_r0.2.2.2.2.2.2.2.2.1
theorem dX4_tellAsked_15 : decode cX4_tellAsked 15 = .ok (.iaload, 1) := dX4_tellAsked_r0.2.2.2.2.2.2.2.2.2.1
theorem dX4_tellAsked_16 : decode cX4_tellAsked 16 = .ok (.getstatic 129, 3) := dX4_tellAsked_r0.2.2.2.2.2.2.2.2.2.2.1
theorem dX4_tellAsked_19 : decode cX4_tellAsked 19 = .ok (.iload_n 1, 1) := dX4_tellAsked_r0.2.2.2.2.2.2.2.2.2.2.2.1
theorem dX4_tellAsked_20 : decode cX4_tellAsked 20 = .ok (.iaload, 1) := dX4_tellAsked_r0.2.2.2.2.2.2.2.2.2.2.2.2.1
theorem dX4_tellAsked_21 : decode cX4_tellAsked 21 = .ok (.invokevirtual 103, 3) := dX4_tellAsked_r0.2.2.2.2.2.2.2.2.2.2.2.2.2.1
theorem dX4_tellAsked_24 : decode cX4_tellAsked 24 = .ok (.istore_n 2, 1) := dX4_tellAsked_r0.2.2.2.2.2.2.2.2.2.2.2.2.2.2.1
theorem dX4_tellAsked_25 : decode cX4_tellAsked 25 = .ok (.iload_n 2, 1) := dX4_tellAsked_r0.2.2.2.2.2.2.2.2.2.2.2.2.2.2.2.1
theorem dX4_tellAsked_r26 : zdcP cX4_tellAsked 26 [(.iconst (-1), 1), (.if_icmp .eq 12, 3), (.aload_n 0, 1), (.getfield 17, 3), (.iload_n 1, 1), (.iload_n 2, 1), (.invokevirtual 132, 3), (.return_, 1)] := zdcA_ok (by decide +kernel)
theorem dX4_tellAsked_26 : decode cX4_tellAsked 26 = .ok (.iconst (-1), 1) := dX4_tellAsked_r26.1
theorem dX4_tellAsked_27 : decode cX4_tellAsked 27 = .ok (.if_icmp .eq 12, 3) := dX4_tellAsked_r26.2.1
theorem dX4_tellAsked_30 : decode cX4_tellAsked 30 = .ok (.aload_n 0, 1) := dX4_tellAsked_r26.2.2.1
theorem dX4_tellAsked_31 : decode cX4_tellAsked 31 = .ok (.getfield 17, 3) := dX4_tellAsked_r26.2.2.2.1
theorem dX4_tellAsked_34 : decode cX4_tellAsked 34 = .ok (.iload_n 1, 1) := dX4_tellAsked_r26.2.2.2.2.1
theorem dX4_tellAsked_35 : decode cX4_tellAsked 35 = .ok (.iload_n 2, 1) := dX4_tellAsked_r26.2.2.2.2.2.1
theorem dX4_tellAsked_36 : decode cX4_tellAsked 36 = .ok (.invokevirtual 132, 3) := dX4_tellAsked_r26.2.2.2.2.2.2.1
theorem dX4_tellAsked_39 : decode cX4_tellAsked 39 = .ok (.return_, 1) := dX4_tellAsked_r26.2.2.2.2.2.2.2.1
def wp_34 (v1 : Int32) (m : zf_Me) (Q : zf_Me → Prop) : Prop := ((v1.toInt < 0 → Q m) ∧ (v1.toInt ≥ 0 → ((v1.toInt < 5 → ((0 ≤ (v1).toInt ∧ (v1).toInt < 5) ∧ ((0 ≤ (v1).toInt ∧ (v1).toInt < 5) ∧ wp_40 ((zx_sa.getD 2 []).getD (Int32.toInt v1).toNat 0) ((zx_sa.getD 3 []).getD (Int32.toInt v1).toNat 0) m (fun x1 m2 => ((x1.toInt = (-1) → Q m2) ∧ (¬ x1.toInt = (-1) → wp_46 36 37 42 v1 x1 m2 (fun m4 => Q m4))))))) ∧ (v1.toInt ≥ 5 → Q m))))
theorem zr_34 {d : Nat} (hd : 2 ≤ d) {v1 : Int32} {Q : zf_Me → Prop} {m : zf_Me} (h : wp_34 v1 m Q) : zf_M d 34 [.inr (.inr (1, 35)), .inl v1] m (zf_O Q) := by
  obtain ⟨e, rfl⟩ : ∃ z, d = z + 1 := ⟨d - 1, by omega⟩
  unfold wp_34 at h
  refine zf_M_of (Nat.le_of_ble_eq_true rfl) zm_34 (L := [some (.inr (.inr (1, 35))), some (.inl v1), none]) rfl ?_
  refine zf_ld (pc' := 1) (v := .inl v1) dX4_tellAsked_0 rfl (fun _ _ _ => rfl) rfl rfl rfl ?_
  refine zf_if_lt (tgt := 9) (pc' := 4) dX4_tellAsked_1 rfl rfl (fun g => ?_) (fun g => ?_)
  · replace h := h.1 g
    exact zf_rv dX4_tellAsked_9 rfl h
  · replace h := h.2 g
    refine zf_ld (pc' := 5) (v := .inl v1) dX4_tellAsked_4 rfl (fun _ _ _ => rfl) rfl rfl rfl ?_
    refine zf_ic (v := 5) (pc' := 6) dX4_tellAsked_5 rfl rfl ?_
    refine zf_icmp_lt (tgt := 10) (pc' := 9) dX4_tellAsked_6 rfl rfl (fun g => ?_) (fun g => ?_)
    · replace h := h.1 g
      refine zf_ld (pc' := 11) (v := .inr (.inr (1, 35))) dX4_tellAsked_10 rfl (fun _ _ _ => rfl) rfl rfl rfl ?_
      refine zf_gs (g := 2) (pc' := 14) dX4_tellAsked_11 rfl rfl rfl ?_
      refine zf_ld (pc' := 15) (v := .inl v1) dX4_tellAsked_14 rfl (fun _ _ _ => rfl) rfl rfl rfl ?_
      refine zf_ials (pc' := 16) dX4_tellAsked_15 rfl (by decide) (n := 5) rfl h.1 ?_
      replace h := h.2
      refine zf_gs (g := 3) (pc' := 19) dX4_tellAsked_16 rfl rfl rfl ?_
      refine zf_ld (pc' := 20) (v := .inl v1) dX4_tellAsked_19 rfl (fun _ _ _ => rfl) rfl rfl rfl ?_
      refine zf_ials (pc' := 21) dX4_tellAsked_20 rfl (by decide) (n := 5) rfl h.1 ?_
      replace h := h.2
      refine zf_iv (k := 40) (pc' := 24) (r := []) dX4_tellAsked_21 rfl rfl rfl rfl (by decide) rfl rfl rfl (zr_40 (by omega) h) (zf_kI (fun x1 m2 h => ?_))
      refine zf_st (pc' := 25) (L2 := [some (.inr (.inr (1, 35))), some (.inl v1), some (.inl x1)]) dX4_tellAsked_24 rfl (fun _ _ _ => rfl) rfl rfl rfl rfl rfl rfl ?_
      refine zf_ld (pc' := 26) (v := .inl x1) dX4_tellAsked_25 rfl (fun _ _ _ => rfl) rfl rfl rfl ?_
      refine zf_ic (v := (-1)) (pc' := 27) dX4_tellAsked_26 rfl rfl ?_
      refine zf_icmp_eq (tgt := 39) (pc' := 30) dX4_tellAsked_27 rfl rfl (fun g => ?_) (fun g => ?_)
      · replace h := h.1 g
        exact zf_rv dX4_tellAsked_39 rfl h
      · replace h := h.2 g
        refine zf_ld (pc' := 31) (v := .inr (.inr (1, 35))) dX4_tellAsked_30 rfl (fun _ _ _ => rfl) rfl rfl rfl ?_
        refine zf_gfr (pc' := 34) (b := 36) dX4_tellAsked_31 rfl rfl (by decide) rfl rfl ?_
        refine zf_ld (pc' := 35) (v := .inl v1) dX4_tellAsked_34 rfl (fun _ _ _ => rfl) rfl rfl rfl ?_
        refine zf_ld (pc' := 36) (v := .inl x1) dX4_tellAsked_35 rfl (fun _ _ _ => rfl) rfl rfl rfl ?_
        refine zf_iv (k := 46) (pc' := 39) (r := []) dX4_tellAsked_36 rfl rfl rfl rfl zf_walk36.1 zf_walk36.2.1 rfl rfl (zr_46 (by omega) zf_walk36 h) (zf_kO (fun m4 h => ?_))
        exact zf_rv dX4_tellAsked_39 rfl h
    · replace h := h.2 g
      exact zf_rv dX4_tellAsked_9 rfl h
def zt_27 : zx_MT := (4, yX4_readItem, cX4_readItem, 3, none, 0, 0)
theorem zm_27 : zx_m 27 = zt_27 := rfl
theorem dX4_readItem_r0 : zdcP cX4_readItem 0 [(.aload_n 0, 1), (.getfield 31, 3), (.istore_n 1, 1), (.aload_n 0, 1), (.invokevirtual 67, 3), (.istore_n 2, 1), (.iload_n 2, 1), (.iconst (-1), 1), (.if_icmp .ne 4, 3), (.return_, 1), (.aload_n 0, 1), (.iload_n 2, 1), (.invokevirtual 71, 3), (.ifCond .ne 9, 3), (.aload_n 0, 1), (.iload_n 1, 1)] := zdcA_ok (by decide +kernel)
theorem dX4_readItem_0 : decode cX4_readItem 0 = .ok (.aload_n 0, 1) := dX4_readItem_r0.1
theorem dX4_readItem_1 : decode cX4_readItem 1 = .ok (.getfield 31, 3) := dX4_readItem_r0.2.1
theorem dX4_readItem_4 : decode cX4_readItem 4 = .ok (.istore_n 1, 1) := dX4_readItem_r0.2.2.1
theorem dX4_readItem_5 : decode cX4_readItem 5 = .ok (.aload_n 0, 1) := dX4_readItem_r0.2.2.2.1
theorem dX4_readItem_6 : decode cX4_readItem 6 = .ok (.invokevirtual 67, 3) := dX4_readItem_r0.2.2.2.2.1
theorem dX4_readItem_9 : decode cX4_readItem 9 = .ok (.istore_n 2, 1) := dX4_readItem_r0.2.2.2.2.2.1
theorem dX4_readItem_10 : decode cX4_readItem 10 = .ok (.iload_n 2, 1) := dX4_readItem_r0.2.2.2.2.2.2.1
theorem dX4_readItem_11 : decode cX4_readItem 11 = .ok (.iconst (-1), 1) := dX4_readItem_r0.2.2.2.2.2.2.2.1
theorem dX4_readItem_12 : decode cX4_readItem 12 = .ok (.if_icmp .ne 4, 3) := dX4_readItem_r0.2.2.2.2.2.2.2.2.1
theorem dX4_readItem_15 : decode cX4_readItem 15 = .ok (.return_, 1) := dX4_readItem_r0.2.2.2.2.2.2.2.2.2.1
theorem dX4_readItem_16 : decode cX4_readItem 16 = .ok (.aload_n 0, 1) := dX4_readItem_r0.2.2.2.2.2.2.2.2.2.2.1
theorem dX4_readItem_17 : decode cX4_readItem 17 = .ok (.iload_n 2, 1) := dX4_readItem_r0.2.2.2.2.2.2.2.2.2.2.2.1
theorem dX4_readItem_18 : decode cX4_readItem 18 = .ok (.invokevirtual 71, 3) := dX4_readItem_r0.2.2.2.2.2.2.2.2.2.2.2.2.1
theorem dX4_readItem_21 : decode cX4_readItem 21 = .ok (.ifCond .ne 9, 3) := dX4_readItem_r0.2.2.2.2.2.2.2.2.2.2.2.2.2.1
theorem dX4_readItem_24 : decode cX4_readItem 24 = .ok (.aload_n 0, 1) := dX4_readItem_r0.2.2.2.2.2.2.2.2.2.2.2.2.2.2.1
theorem dX4_readItem_25 : decode cX4_readItem 25 = .ok (.iload_n 1, 1) := dX4_readItem_r0.2.2.2.2.2.2.2.2.2.2.2.2.2.2.2.1
theorem dX4_readItem_r26 : zdcP cX4_readItem 26 [(.putfield 40, 3), (.return_, 1), (.iload_n 2, 1)] := zdcA_ok (by decide +kernel)
theorem dX4_readItem_26 : decode cX4_readItem 26 = .ok (.putfield 40, 3) := dX4_readItem_r26.1
theorem dX4_readItem_29 : decode cX4_readItem 29 = .ok (.return_, 1) := dX4_readItem_r26.2.1
theorem dX4_readItem_30 : decode cX4_readItem 30 = .ok (.iload_n 2, 1) := dX4_readItem_r26.2.2.1
theorem dX4_readItem_31 : decode cX4_readItem 31 = .ok (.tableswitch 112 0 6 #[41, 49, 57, 84, 91, 98, 105], 41) := by decide +kernel
theorem dX4_readItem_r72 : zdcP cX4_readItem 72 [(.aload_n 0, 1), (.iconst 1, 1), (.invokevirtual 75, 3), (.goto 74, 3), (.aload_n 0, 1), (.iconst (-1), 1), (.invokevirtual 75, 3), (.goto 66, 3), (.aload_n 0, 1), (.getfield 17, 3), (.getfield 43, 3), (.getfield 79, 3), (.aload_n 0, 1), (.getfield 17, 3), (.getfield 43, 3), (.getfield 82, 3)] := zdcA_ok (by decide +kernel)
theorem dX4_readItem_72 : decode cX4_readItem 72 = .ok (.aload_n 0, 1) := dX4_readItem_r72.1
theorem dX4_readItem_73 : decode cX4_readItem 73 = .ok (.iconst 1, 1) := dX4_readItem_r72.2.1
theorem dX4_readItem_74 : decode cX4_readItem 74 = .ok (.invokevirtual 75, 3) := dX4_readItem_r72.2.2.1
theorem dX4_readItem_77 : decode cX4_readItem 77 = .ok (.goto 74, 3) := dX4_readItem_r72.2.2.2.1
theorem dX4_readItem_80 : decode cX4_readItem 80 = .ok (.aload_n 0, 1) := dX4_readItem_r72.2.2.2.2.1
theorem dX4_readItem_81 : decode cX4_readItem 81 = .ok (.iconst (-1), 1) := dX4_readItem_r72.2.2.2.2.2.1
theorem dX4_readItem_82 : decode cX4_readItem 82 = .ok (.invokevirtual 75, 3) := dX4_readItem_r72.2.2.2.2.2.2.1
theorem dX4_readItem_85 : decode cX4_readItem 85 = .ok (.goto 66, 3) := dX4_readItem_r72.2.2.2.2.2.2.2.1
theorem dX4_readItem_88 : decode cX4_readItem 88 = .ok (.aload_n 0, 1) := dX4_readItem_r72.2.2.2.2.2.2.2.2.1
theorem dX4_readItem_89 : decode cX4_readItem 89 = .ok (.getfield 17, 3) := dX4_readItem_r72.2.2.2.2.2.2.2.2.2.1
theorem dX4_readItem_92 : decode cX4_readItem 92 = .ok (.getfield 43, 3) := dX4_readItem_r72.2.2.2.2.2.2.2.2.2.2.1
theorem dX4_readItem_95 : decode cX4_readItem 95 = .ok (.getfield 79, 3) := dX4_readItem_r72.2.2.2.2.2.2.2.2.2.2.2.1
theorem dX4_readItem_98 : decode cX4_readItem 98 = .ok (.aload_n 0, 1) := dX4_readItem_r72.2.2.2.2.2.2.2.2.2.2.2.2.1
theorem dX4_readItem_99 : decode cX4_readItem 99 = .ok (.getfield 17, 3) := dX4_readItem_r72.2.2.2.2.2.2.2.2.2.2.2.2.2.1
theorem dX4_readItem_102 : decode cX4_readItem 102 = .ok (.getfield 43, 3) := dX4_readItem_r72.2.2.2.2.2.2.2.2.2.2.2.2.2.2.1
theorem dX4_readItem_105 : decode cX4_readItem 105 = .ok (.getfield 82, 3) := dX4_readItem_r72.2.2.2.2.2.2.2.2.2.2.2.2.2.2.2.1
theorem dX4_readItem_r108 : zdcP cX4_readItem 108 [(.iconst 1, 1), (.isub, 1), (.iconst 1, 1), (.iastore, 1), (.goto 39, 3), (.aload_n 0, 1), (.invokevirtual 85, 3), (.goto 32, 3), (.aload_n 0, 1), (.invokevirtual 88, 3), (.goto 25, 3), (.aload_n 0, 1), (.invokevirtual 91, 3), (.goto 18, 3), (.aload_n 0, 1), (.invokevirtual 94, 3)] := zdcA_ok (by decide +kernel)
theorem dX4_readItem_108 : decode cX4_readItem 108 = .ok (.iconst 1, 1) := dX4_readItem_r108.1
theorem dX4_readItem_109 : decode cX4_readItem 109 = .ok (.isub, 1) := dX4_readItem_r108.2.1
theorem dX4_readItem_110 : decode cX4_readItem 110 = .ok (.iconst 1, 1) := dX4_readItem_r108.2.2.1
theorem dX4_readItem_111 : decode cX4_readItem 111 = .ok (.iastore, 1) := dX4_readItem_r108.2.2.2.1
theorem dX4_readItem_112 : decode cX4_readItem 112 = .ok (.goto 39, 3) := dX4_readItem_r108.2.2.2.2.1
theorem dX4_readItem_115 : decode cX4_readItem 115 = .ok (.aload_n 0, 1) := dX4_readItem_r108.2.2.2.2.2.1
theorem dX4_readItem_116 : decode cX4_readItem 116 = .ok (.invokevirtual 85, 3) := dX4_readItem_r108.2.2.2.2.2.2.1
theorem dX4_readItem_119 : decode cX4_readItem 119 = .ok (.goto 32, 3) := dX4_readItem_r108.2.2.2.2.2.2.2.1
theorem dX4_readItem_122 : decode cX4_readItem 122 = .ok (.aload_n 0, 1) := dX4_readItem_r108.2.2.2.2.2.2.2.2.1
theorem dX4_readItem_123 : decode cX4_readItem 123 = .ok (.invokevirtual 88, 3) := dX4_readItem_r108.2.2.2.2.2.2.2.2.2.1
theorem dX4_readItem_126 : decode cX4_readItem 126 = .ok (.goto 25, 3) := dX4_readItem_r108.2.2.2.2.2.2.2.2.2.2.1
theorem dX4_readItem_129 : decode cX4_readItem 129 = .ok (.aload_n 0, 1) := dX4_readItem_r108.2.2.2.2.2.2.2.2.2.2.2.1
theorem dX4_readItem_130 : decode cX4_readItem 130 = .ok (.invokevirtual 91, 3) := dX4_readItem_r108.2.2.2.2.2.2.2.2.2.2.2.2.1
theorem dX4_readItem_133 : decode cX4_readItem 133 = .ok (.goto 18, 3) := dX4_readItem_r108.2.2.2.2.2.2.2.2.2.2.2.2.2.1
theorem dX4_readItem_136 : decode cX4_readItem 136 = .ok (.aload_n 0, 1) := dX4_readItem_r108.2.2.2.2.2.2.2.2.2.2.2.2.2.2.1
theorem dX4_readItem_137 : decode cX4_readItem 137 = .ok (.invokevirtual 94, 3) := dX4_readItem_r108.2.2.2.2.2.2.2.2.2.2.2.2.2.2.2.1
theorem dX4_readItem_r140 : zdcP cX4_readItem 140 [(.goto 11, 3), (.aload_n 0, 1), (.iload_n 2, 1), (.bipush 7, 2), (.isub, 1), (.invokevirtual 97, 3), (.return_, 1)] := zdcA_ok (by decide +kernel)
theorem dX4_readItem_140 : decode cX4_readItem 140 = .ok (.goto 11, 3) := dX4_readItem_r140.1
theorem dX4_readItem_143 : decode cX4_readItem 143 = .ok (.aload_n 0, 1) := dX4_readItem_r140.2.1
theorem dX4_readItem_144 : decode cX4_readItem 144 = .ok (.iload_n 2, 1) := dX4_readItem_r140.2.2.1
theorem dX4_readItem_145 : decode cX4_readItem 145 = .ok (.bipush 7, 2) := dX4_readItem_r140.2.2.2.1
theorem dX4_readItem_147 : decode cX4_readItem 147 = .ok (.isub, 1) := dX4_readItem_r140.2.2.2.2.1
theorem dX4_readItem_148 : decode cX4_readItem 148 = .ok (.invokevirtual 97, 3) := dX4_readItem_r140.2.2.2.2.2.1
theorem dX4_readItem_151 : decode cX4_readItem 151 = .ok (.return_, 1) := dX4_readItem_r140.2.2.2.2.2.2.1
def wp_27 (m : zf_Me) (Q : zf_Me → Prop) : Prop := wp_35 m (fun x1 m2 => ((¬ x1.toInt = (-1) → wp_28 x1 m2 (fun b3 m4 => ((b3 = true → (((x1.toInt < 0 ∨ x1.toInt > 6) → wp_34 (x1 - 7) m4 (fun m6 => Q m6)) ∧ (x1.toInt = 0 → wp_29 1 m4 (fun m8 => Q m8)) ∧ (x1.toInt = 1 → wp_29 (-1) m4 (fun m10 => Q m10)) ∧ (x1.toInt = 2 → ((0 ≤ (Int32.toInt ((m4.1 37 4) - 1)) ∧ (Int32.toInt ((m4.1 37 4) - 1)) < (24 : Int)) ∧ ∀ m11, m11 = zf_u m4 39 (Int32.toInt ((m4.1 37 4) - 1)).toNat 1 → Q m11)) ∧ (x1.toInt = 3 → wp_30 m4 (fun m14 => Q m14)) ∧ (x1.toInt = 4 → wp_31 m4 (fun m16 => Q m16)) ∧ (x1.toInt = 5 → wp_32 m4 (fun m18 => Q m18)) ∧ (x1.toInt = 6 → wp_33 m4 (fun m20 => Q m20)))) ∧ (b3 = false → (∀ m21, m21 = zf_u m4 35 6 (m.1 35 3) → Q m21))))) ∧ (x1.toInt = (-1) → Q m2)))
theorem zr_27 {d : Nat} (hd : 8 ≤ d) {Q : zf_Me → Prop} {m : zf_Me} (h : wp_27 m Q) : zf_M d 27 [.inr (.inr (1, 35))] m (zf_O Q) := by
  obtain ⟨e, rfl⟩ : ∃ z, d = z + 1 := ⟨d - 1, by omega⟩
  unfold wp_27 at h
  refine zf_M_of (Nat.le_of_ble_eq_true rfl) zm_27 (L := [some (.inr (.inr (1, 35))), none, none]) rfl ?_
  refine zf_ld (pc' := 1) (v := .inr (.inr (1, 35))) dX4_readItem_0 rfl (fun _ _ _ => rfl) rfl rfl rfl ?_
  refine zf_gfi (pc' := 4) dX4_readItem_1 rfl rfl (by decide) rfl rfl ?_
  refine zf_st (pc' := 5) (L2 := [some (.inr (.inr (1, 35))), some (.inl (m.1 35 3)), none]) dX4_readItem_4 rfl (fun _ _ _ => rfl) rfl rfl rfl rfl rfl rfl ?_
  refine zf_ld (pc' := 6) (v := .inr (.inr (1, 35))) dX4_readItem_5 rfl (fun _ _ _ => rfl) rfl rfl rfl ?_
  refine zf_iv (k := 35) (pc' := 9) (r := []) dX4_readItem_6 rfl rfl rfl rfl (by decide) rfl rfl rfl (zr_35 (by omega) h) (zf_kI (fun x1 m2 h => ?_))
  refine zf_st (pc' := 10) (L2 := [some (.inr (.inr (1, 35))), some (.inl (m.1 35 3)), some (.inl x1)]) dX4_readItem_9 rfl (fun _ _ _ => rfl) rfl rfl rfl rfl rfl rfl ?_
  refine zf_ld (pc' := 11) (v := .inl x1) dX4_readItem_10 rfl (fun _ _ _ => rfl) rfl rfl rfl ?_
  refine zf_ic (v := (-1)) (pc' := 12) dX4_readItem_11 rfl rfl ?_
  refine zf_icmp_ne (tgt := 16) (pc' := 15) dX4_readItem_12 rfl rfl (fun g => ?_) (fun g => ?_)
  · replace h := h.1 g
    refine zf_ld (pc' := 17) (v := .inr (.inr (1, 35))) dX4_readItem_16 rfl (fun _ _ _ => rfl) rfl rfl rfl ?_
    refine zf_ld (pc' := 18) (v := .inl x1) dX4_readItem_17 rfl (fun _ _ _ => rfl) rfl rfl rfl ?_
    refine zf_iv (k := 28) (pc' := 21) (r := []) dX4_readItem_18 rfl rfl rfl rfl (by decide) rfl rfl rfl (zr_28 (by omega) h) (zf_kB (fun b3 m4 h => ?_))
    refine zf_ib_ne (tgt := 30) (pc' := 24) dX4_readItem_21 rfl rfl (fun g => ?_) (fun g => ?_)
    · replace h := h.1 g
      refine zf_ld (pc' := 31) (v := .inl x1) dX4_readItem_30 rfl (fun _ _ _ => rfl) rfl rfl rfl ?_
      refine zf_tsc (tgd := 143) dX4_readItem_31 rfl [72, 80, 88, 115, 122, 129, 136] (by decide) (by decide) (fun g => ?_) (zl_cons (fun g => ?_) (zl_cons (fun g => ?_) (zl_cons (fun g => ?_) (zl_cons (fun g => ?_) (zl_cons (fun g => ?_) (zl_cons (fun g => ?_) (zl_cons (fun g => ?_) (zl_nil))))))))
      · replace h := h.1 (by omega)
        refine zf_ld (pc' := 144) (v := .inr (.inr (1, 35))) dX4_readItem_143 rfl (fun _ _ _ => rfl) rfl rfl rfl ?_
        refine zf_ld (pc' := 145) (v := .inl x1) dX4_readItem_144 rfl (fun _ _ _ => rfl) rfl rfl rfl ?_
        refine zf_bi (v := 7) (pc' := 147) dX4_readItem_145 rfl rfl ?_
        refine zf_in (pc' := 148) (S' := [.inl (x1 - 7), .inr (.inr (1, 35))]) dX4_readItem_147 rfl (fun _ _ _ => rfl) ?_
        refine zf_iv (k := 34) (pc' := 151) (r := []) dX4_readItem_148 rfl rfl rfl rfl (by decide) rfl rfl rfl (zr_34 (by omega) h) (zf_kO (fun m6 h => ?_))
        exact zf_rv dX4_readItem_151 rfl h
      · replace h := h.2.1 (by omega)
        refine zf_ld (pc' := 73) (v := .inr (.inr (1, 35))) dX4_readItem_72 rfl (fun _ _ _ => rfl) rfl rfl rfl ?_
        refine zf_ic (v := 1) (pc' := 74) dX4_readItem_73 rfl rfl ?_
        refine zf_iv (k := 29) (pc' := 77) (r := []) dX4_readItem_74 rfl rfl rfl rfl (by decide) rfl rfl rfl (zr_29 (by omega) h) (zf_kO (fun m8 h => ?_))
        refine zf_goto (tgt := 151) dX4_readItem_77 rfl ?_
        exact zf_rv dX4_readItem_151 rfl h
      · replace h := h.2.2.1 (by omega)
        refine zf_ld (pc' := 81) (v := .inr (.inr (1, 35))) dX4_readItem_80 rfl (fun _ _ _ => rfl) rfl rfl rfl ?_
        refine zf_ic (v := (-1)) (pc' := 82) dX4_readItem_81 rfl rfl ?_
        refine zf_iv (k := 29) (pc' := 85) (r := []) dX4_readItem_82 rfl rfl rfl rfl (by decide) rfl rfl rfl (zr_29 (by omega) h) (zf_kO (fun m10 h => ?_))
        refine zf_goto (tgt := 151) dX4_readItem_85 rfl ?_
        exact zf_rv dX4_readItem_151 rfl h
      · replace h := h.2.2.2.1 (by omega)
        refine zf_ld (pc' := 89) (v := .inr (.inr (1, 35))) dX4_readItem_88 rfl (fun _ _ _ => rfl) rfl rfl rfl ?_
        refine zf_gfr (pc' := 92) (b := 36) dX4_readItem_89 rfl rfl (by decide) rfl rfl ?_
        refine zf_gfr (pc' := 95) (b := 37) dX4_readItem_92 rfl rfl zf_walk36.1 zf_walk36.2.1 rfl ?_
        refine zf_gfr (pc' := 98) (b := 39) dX4_readItem_95 rfl rfl zf_walk36.2.2.1.1 zf_walk36.2.2.1.2.1 rfl ?_
        refine zf_ld (pc' := 99) (v := .inr (.inr (1, 35))) dX4_readItem_98 rfl (fun _ _ _ => rfl) rfl rfl rfl ?_
        refine zf_gfr (pc' := 102) (b := 36) dX4_readItem_99 rfl rfl (by decide) rfl rfl ?_
        refine zf_gfr (pc' := 105) (b := 37) dX4_readItem_102 rfl rfl zf_walk36.1 zf_walk36.2.1 rfl ?_
        refine zf_gfi (pc' := 108) dX4_readItem_105 rfl rfl zf_walk36.2.2.1.1 zf_walk36.2.2.1.2.1 rfl ?_
        refine zf_ic (v := 1) (pc' := 109) dX4_readItem_108 rfl rfl ?_
        refine zf_in (pc' := 110) (S' := [.inl ((m4.1 37 4) - 1), .inr (.inr (1, 39))]) dX4_readItem_109 rfl (fun _ _ _ => rfl) ?_
        refine zf_ic (v := 1) (pc' := 111) dX4_readItem_110 rfl rfl ?_
        refine zf_ias (pc' := 112) dX4_readItem_111 rfl zf_walk36.2.2.1.2.2.2.1.1 zf_walk36.2.2.1.2.2.2.1.2 h.1 rfl (fun m11 e12 => ?_)
        replace h := h.2 m11 e12
        refine zf_goto (tgt := 151) dX4_readItem_112 rfl ?_
        exact zf_rv dX4_readItem_151 rfl h
      · replace h := h.2.2.2.2.1 (by omega)
        refine zf_ld (pc' := 116) (v := .inr (.inr (1, 35))) dX4_readItem_115 rfl (fun _ _ _ => rfl) rfl rfl rfl ?_
        refine zf_iv (k := 30) (pc' := 119) (r := []) dX4_readItem_116 rfl rfl rfl rfl (by decide) rfl rfl rfl (zr_30 (by omega) h) (zf_kO (fun m14 h => ?_))
        refine zf_goto (tgt := 151) dX4_readItem_119 rfl ?_
        exact zf_rv dX4_readItem_151 rfl h
      · replace h := h.2.2.2.2.2.1 (by omega)
        refine zf_ld (pc' := 123) (v := .inr (.inr (1, 35))) dX4_readItem_122 rfl (fun _ _ _ => rfl) rfl rfl rfl ?_
        refine zf_iv (k := 31) (pc' := 126) (r := []) dX4_readItem_123 rfl rfl rfl rfl (by decide) rfl rfl rfl (zr_31 (by omega) h) (zf_kO (fun m16 h => ?_))
        refine zf_goto (tgt := 151) dX4_readItem_126 rfl ?_
        exact zf_rv dX4_readItem_151 rfl h
      · replace h := h.2.2.2.2.2.2.1 (by omega)
        refine zf_ld (pc' := 130) (v := .inr (.inr (1, 35))) dX4_readItem_129 rfl (fun _ _ _ => rfl) rfl rfl rfl ?_
        refine zf_iv (k := 32) (pc' := 133) (r := []) dX4_readItem_130 rfl rfl rfl rfl (by decide) rfl rfl rfl (zr_32 (by omega) h) (zf_kO (fun m18 h => ?_))
        refine zf_goto (tgt := 151) dX4_readItem_133 rfl ?_
        exact zf_rv dX4_readItem_151 rfl h
      · replace h := h.2.2.2.2.2.2.2 (by omega)
        refine zf_ld (pc' := 137) (v := .inr (.inr (1, 35))) dX4_readItem_136 rfl (fun _ _ _ => rfl) rfl rfl rfl ?_
        refine zf_iv (k := 33) (pc' := 140) (r := []) dX4_readItem_137 rfl rfl rfl rfl (by decide) rfl rfl rfl (zr_33 (by omega) h) (zf_kO (fun m20 h => ?_))
        refine zf_goto (tgt := 151) dX4_readItem_140 rfl ?_
        exact zf_rv dX4_readItem_151 rfl h
    · replace h := h.2 g
      refine zf_ld (pc' := 25) (v := .inr (.inr (1, 35))) dX4_readItem_24 rfl (fun _ _ _ => rfl) rfl rfl rfl ?_
      refine zf_ld (pc' := 26) (v := .inl (m.1 35 3)) dX4_readItem_25 rfl (fun _ _ _ => rfl) rfl rfl rfl ?_
      refine zf_pf (pc' := 29) dX4_readItem_26 rfl rfl (by decide) rfl rfl rfl (fun m21 e22 => ?_)
      replace h := h m21 e22
      exact zf_rv dX4_readItem_29 rfl h
  · replace h := h.2 g
    exact zf_rv dX4_readItem_15 rfl h
def zt_26 : zx_MT := (4, yX4_read, cX4_read, 5, none, 2, 0)
theorem zm_26 : zx_m 26 = zt_26 := rfl
theorem dX4_read_r0 : zdcP cX4_read 0 [(.aload_n 0, 1), (.getfield 17, 3), (.getfield 43, 3), (.aload_n 2, 1), (.getfield 43, 3), (.invokevirtual 47, 3), (.aload_n 0, 1), (.getfield 17, 3), (.aload_n 2, 1), (.invokevirtual 50, 3), (.aload_n 0, 1), (.aload_n 1, 1), (.getfield 53, 3), (.putfield 27, 3), (.iconst 0, 1), (.istore_n 3, 1)] := zdcA_ok (by decide +kernel)
theorem dX4_read_0 : decode cX4_read 0 = .ok (.aload_n 0, 1) := dX4_read_r0.1
theorem dX4_read_1 : decode cX4_read 1 = .ok (.getfield 17, 3) := dX4_read_r0.2.1
theorem dX4_read_4 : decode cX4_read 4 = .ok (.getfield 43, 3) := dX4_read_r0.2.2.1
theorem dX4_read_7 : decode cX4_read 7 = .ok (.aload_n 2, 1) := dX4_read_r0.2.2.2.1
theorem dX4_read_8 : decode cX4_read 8 = .ok (.getfield 43, 3) := dX4_read_r0.2.2.2.2.1
theorem dX4_read_11 : decode cX4_read 11 = .ok (.invokevirtual 47, 3) := dX4_read_r0.2.2.2.2.2.1
theorem dX4_read_14 : decode cX4_read 14 = .ok (.aload_n 0, 1) := dX4_read_r0.2.2.2.2.2.2.1
theorem dX4_read_15 : decode cX4_read 15 = .ok (.getfield 17, 3) := dX4_read_r0.2.2.2.2.2.2.2.1
theorem dX4_read_18 : decode cX4_read 18 = .ok (.aload_n 2, 1) := dX4_read_r0.2.2.2.2.2.2.2.2.1
theorem dX4_read_19 : decode cX4_read 19 = .ok (.invokevirtual 50, 3) := dX4_read_r0.2.2.2.2.2.2.2.2.2.1
theorem dX4_read_22 : decode cX4_read 22 = .ok (.aload_n 0, 1) := dX4_read_r0.2.2.2.2.2.2.2.2.2.2.1
theorem dX4_read_23 : decode cX4_read 23 = .ok (.aload_n 1, 1) := dX4_read_r0.2.2.2.2.2.2.2.2.2.2.2.1
theorem dX4_read_24 : decode cX4_read 24 = .ok (.getfield 53, 3) := dX4_read_r0.2.2.2.2.2.2.2.2.2.2.2.2.1
theorem dX4_read_27 : decode cX4_read 27 = .ok (.putfield 27, 3) := dX4_read_r0.2.2.2.2.2.2.2.2.2.2.2.2.2.1
theorem dX4_read_30 : decode cX4_read 30 = .ok (.iconst 0, 1) := dX4_read_r0.2.2.2.2.2.2.2.2.2.2.2.2.2.2.1
theorem dX4_read_31 : decode cX4_read 31 = .ok (.istore_n 3, 1) := dX4_read_r0.2.2.2.2.2.2.2.2.2.2.2.2.2.2.2.1
theorem dX4_read_r32 : zdcP cX4_read 32 [(.iload_n 3, 1), (.aload_n 0, 1), (.getfield 27, 3), (.if_icmp .ge 20, 3), (.aload_n 0, 1), (.getfield 23, 3), (.iload_n 3, 1), (.aload_n 1, 1), (.iload_n 3, 1), (.invokevirtual 56, 3), (.iastore, 1), (.iinc 3 1, 3), (.goto (-22), 3), (.aload_n 0, 1), (.iconst 0, 1), (.putfield 31, 3)] := zdcA_ok (by decide +kernel)
theorem dX4_read_32 : decode cX4_read 32 = .ok (.iload_n 3, 1) := dX4_read_r32.1
theorem dX4_read_33 : decode cX4_read 33 = .ok (.aload_n 0, 1) := dX4_read_r32.2.1
theorem dX4_read_34 : decode cX4_read 34 = .ok (.getfield 27, 3) := dX4_read_r32.2.2.1
theorem dX4_read_37 : decode cX4_read 37 = .ok (.if_icmp .ge 20, 3) := dX4_read_r32.2.2.2.1
theorem dX4_read_40 : decode cX4_read 40 = .ok (.aload_n 0, 1) := dX4_read_r32.2.2.2.2.1
theorem dX4_read_41 : decode cX4_read 41 = .ok (.getfield 23, 3) := dX4_read_r32.2.2.2.2.2.1
theorem dX4_read_44 : decode cX4_read 44 = .ok (.iload_n 3, 1) := dX4_read_r32.2.2.2.2.2.2.1
theorem dX4_read_45 : decode cX4_read 45 = .ok (.aload_n 1, 1) := dX4_read_r32.2.2.2.2.2.2.2.1
theorem dX4_read_46 : decode cX4_read 46 = .ok (.iload_n 3, 1) := dX4_read_r32.2.2.2.2.2.2.2.2.1
theorem dX4_read_47 : decode cX4_read 47 = .ok (.invokevirtual 56, 3) := dX4_read_r32.2.2.2.2.2.2.2.2.2.1
theorem dX4_read_50 : decode cX4_read 50 = .ok (.iastore, 1) := dX4_read_r32.2.2.2.2.2.2.2.2.2.2.1
theorem dX4_read_51 : decode cX4_read 51 = .ok (.iinc 3 1, 3) := dX4_read_r32.2.2.2.2.2.2.2.2.2.2.2.1
theorem dX4_read_54 : decode cX4_read 54 = .ok (.goto (-22), 3) := dX4_read_r32.2.2.2.2.2.2.2.2.2.2.2.2.1
theorem dX4_read_57 : decode cX4_read 57 = .ok (.aload_n 0, 1) := dX4_read_r32.2.2.2.2.2.2.2.2.2.2.2.2.2.1
theorem dX4_read_58 : decode cX4_read 58 = .ok (.iconst 0, 1) := dX4_read_r32.2.2.2.2.2.2.2.2.2.2.2.2.2.2.1
theorem dX4_read_59 : decode cX4_read 59 = .ok (.putfield 31, 3) := dX4_read_r32.2.2.2.2.2.2.2.2.2.2.2.2.2.2.2.1
theorem dX4_read_r62 : zdcP cX4_read 62 [(.aload_n 0, 1), (.iconst 0, 1), (.putfield 37, 3), (.aload_n 0, 1), (.iconst (-1), 1), (.putfield 40, 3), (.iconst 1, 1), (.istore_n 3, 1), (.iconst 0, 1), (.istore 4, 2), (.iload_n 3, 1), (.ifCond .eq 65, 3), (.iload 4, 2), (.sipush 160, 3), (.if_icmp .gt 57, 3), (.aload_n 0, 1)] := zdcA_ok (by decide +kernel)
theorem dX4_read_62 : decode cX4_read 62 = .ok (.aload_n 0, 1) := dX4_read_r62.1
theorem dX4_read_63 : decode cX4_read 63 = .ok (.iconst 0, 1) := dX4_read_r62.2.1
theorem dX4_read_64 : decode cX4_read 64 = .ok (.putfield 37, 3) := dX4_read_r62.2.2.1
theorem dX4_read_67 : decode cX4_read 67 = .ok (.aload_n 0, 1) := dX4_read_r62.2.2.2.1
theorem dX4_read_68 : decode cX4_read 68 = .ok (.iconst (-1), 1) := dX4_read_r62.2.2.2.2.1
theorem dX4_read_69 : decode cX4_read 69 = .ok (.putfield 40, 3) := dX4_read_r62.2.2.2.2.2.1
theorem dX4_read_72 : decode cX4_read 72 = .ok (.iconst 1, 1) := dX4_read_r62.2.2.2.2.2.2.1
theorem dX4_read_73 : decode cX4_read 73 = .ok (.istore_n 3, 1) := dX4_read_r62.2.2.2.2.2.2.2.1
theorem dX4_read_74 : decode cX4_read 74 = .ok (.iconst 0, 1) := dX4_read_r62.2.2.2.2.2.2.2.2.1
theorem dX4_read_75 : decode cX4_read 75 = .ok (.istore 4, 2) := dX4_read_r62.2.2.2.2.2.2.2.2.2.1
theorem dX4_read_77 : decode cX4_read 77 = .ok (.iload_n 3, 1) := dX4_read_r62.2.2.2.2.2.2.2.2.2.2.1
theorem dX4_read_78 : decode cX4_read 78 = .ok (.ifCond .eq 65, 3) := dX4_read_r62.2.2.2.2.2.2.2.2.2.2.2.1
theorem dX4_read_81 : decode cX4_read 81 = .ok (.iload 4, 2) := dX4_read_r62.2.2.2.2.2.2.2.2.2.2.2.2.1
theorem dX4_read_83 : decode cX4_read 83 = .ok (.sipush 160, 3) := dX4_read_r62.2.2.2.2.2.2.2.2.2.2.2.2.2.1
theorem dX4_read_86 : decode cX4_read 86 = .ok (.if_icmp .gt 57, 3) := dX4_read_r62.2.2.2.2.2.2.2.2.2.2.2.2.2.2.1
theorem dX4_read_89 : decode cX4_read 89 = .ok (.aload_n 0, 1) := dX4_read_r62.2.2.2.2.2.2.2.2.2.2.2.2.2.2.2.1
theorem dX4_read_r90 : zdcP cX4_read 90 [(.invokevirtual 60, 3), (.aload_n 0, 1), (.dup, 1), (.getfield 37, 3), (.iconst 1, 1), (.iadd, 1), (.putfield 37, 3), (.aload_n 0, 1), (.getfield 40, 3), (.iconst (-1), 1), (.if_icmp .ne 27, 3), (.aload_n 0, 1), (.getfield 31, 3), (.aload_n 0, 1), (.getfield 27, 3), (.if_icmp .ge 16, 3)] := zdcA_ok (by decide +kernel)
theorem dX4_read_90 : decode cX4_read 90 = .ok (.invokevirtual 60, 3) := dX4_read_r90.1
theorem dX4_read_93 : decode cX4_read 93 = .ok (.aload_n 0, 1) := dX4_read_r90.2.1
theorem dX4_read_94 : decode cX4_read 94 = .ok (.dup, 1) := dX4_read_r90.2.2.1
theorem dX4_read_95 : decode cX4_read 95 = .ok (.getfield 37, 3) := dX4_read_r90.2.2.2.1
theorem dX4_read_98 : decode cX4_read 98 = .ok (.iconst 1, 1) := dX4_read_r90.2.2.2.2.1
theorem dX4_read_99 : decode cX4_read 99 = .ok (.iadd, 1) := dX4_read_r90.2.2.2.2.2.1
theorem dX4_read_100 : decode cX4_read 100 = .ok (.putfield 37, 3) := dX4_read_r90.2.2.2.2.2.2.1
theorem dX4_read_103 : decode cX4_read 103 = .ok (.aload_n 0, 1) := dX4_read_r90.2.2.2.2.2.2.2.1
theorem dX4_read_104 : decode cX4_read 104 = .ok (.getfield 40, 3) := dX4_read_r90.2.2.2.2.2.2.2.2.1
theorem dX4_read_107 : decode cX4_read 107 = .ok (.iconst (-1), 1) := dX4_read_r90.2.2.2.2.2.2.2.2.2.1
theorem dX4_read_108 : decode cX4_read 108 = .ok (.if_icmp .ne 27, 3) := dX4_read_r90.2.2.2.2.2.2.2.2.2.2.1
theorem dX4_read_111 : decode cX4_read 111 = .ok (.aload_n 0, 1) := dX4_read_r90.2.2.2.2.2.2.2.2.2.2.2.1
theorem dX4_read_112 : decode cX4_read 112 = .ok (.getfield 31, 3) := dX4_read_r90.2.2.2.2.2.2.2.2.2.2.2.2.1
theorem dX4_read_115 : decode cX4_read 115 = .ok (.aload_n 0, 1) := dX4_read_r90.2.2.2.2.2.2.2.2.2.2.2.2.2.1
theorem dX4_read_116 : decode cX4_read 116 = .ok (.getfield 27, 3) := dX4_read_r90.2.2.2.2.2.2.2.2.2.2.2.2.2.2.1
theorem dX4_read_119 : decode cX4_read 119 = .ok (.if_icmp .ge 16, 3) := dX4_read_r90.2.2.2.2.2.2.2.2.2.2.2.2.2.2.2.1
theorem dX4_read_r122 : zdcP cX4_read 122 [(.aload_n 0, 1), (.bipush 59, 2), (.invokevirtual 63, 3), (.ifCond .eq 7, 3), (.iconst 1, 1), (.goto 4, 3), (.iconst 0, 1), (.istore_n 3, 1), (.iinc 4 1, 3), (.goto (-63), 3), (.return_, 1)] := zdcA_ok (by decide +kernel)
theorem dX4_read_122 : decode cX4_read 122 = .ok (.aload_n 0, 1) := dX4_read_r122.1
theorem dX4_read_123 : decode cX4_read 123 = .ok (.bipush 59, 2) := dX4_read_r122.2.1
theorem dX4_read_125 : decode cX4_read 125 = .ok (.invokevirtual 63, 3) := dX4_read_r122.2.2.1
theorem dX4_read_128 : decode cX4_read 128 = .ok (.ifCond .eq 7, 3) := dX4_read_r122.2.2.2.1
theorem dX4_read_131 : decode cX4_read 131 = .ok (.iconst 1, 1) := dX4_read_r122.2.2.2.2.1
theorem dX4_read_132 : decode cX4_read 132 = .ok (.goto 4, 3) := dX4_read_r122.2.2.2.2.2.1
theorem dX4_read_135 : decode cX4_read 135 = .ok (.iconst 0, 1) := dX4_read_r122.2.2.2.2.2.2.1
theorem dX4_read_136 : decode cX4_read 136 = .ok (.istore_n 3, 1) := dX4_read_r122.2.2.2.2.2.2.2.1
theorem dX4_read_137 : decode cX4_read 137 = .ok (.iinc 4 1, 3) := dX4_read_r122.2.2.2.2.2.2.2.2.1
theorem dX4_read_140 : decode cX4_read 140 = .ok (.goto (-63), 3) := dX4_read_r122.2.2.2.2.2.2.2.2.2.1
theorem dX4_read_143 : decode cX4_read 143 = .ok (.return_, 1) := dX4_read_r122.2.2.2.2.2.2.2.2.2.2.1
def wq_26_77 (c1 : Nat) (r1 : Nat) (w2 : Nat) (y2 : Nat) (r2 : Nat) (Q : zf_Me → Prop) : Nat → Int32 → Int32 → zf_Me → Prop
  | 0, _, _, _ => False
  | n + 1, v3, v4, m => ((v3.toInt = 0 → Q m) ∧ (¬ v3.toInt = 0 → ((v4.toInt > 160 → Q m) ∧ (v4.toInt ≤ 160 → wp_27 m (fun m14 => (∀ m15, m15 = zf_u m14 35 5 ((m14.1 35 5) + 1) → ((¬ ((m15.1 35 6)).toInt = (-1) → wq_26_77 c1 r1 w2 y2 r2 Q n 0 (v4 + 1) m15) ∧ (((m15.1 35 6)).toInt = (-1) → ((((m15.1 35 3)).toInt ≥ ((m15.1 35 2)).toInt → wq_26_77 c1 r1 w2 y2 r2 Q n 0 (v4 + 1) m15) ∧ (((m15.1 35 3)).toInt < ((m15.1 35 2)).toInt → wp_39 59 m15 (fun b17 m18 => ((b17 = false → wq_26_77 c1 r1 w2 y2 r2 Q n 0 (v4 + 1) m18) ∧ (b17 = true → wq_26_77 c1 r1 w2 y2 r2 Q n 1 (v4 + 1) m18)))))))))))))
theorem zq_26_77 {d : Nat} (hd : 9 ≤ d) {c1 : Nat} {r1 : Nat} {w2 : Nat} {y2 : Nat} {r2 : Nat} (hp1 : zf_shelf c1 r1) (hp2 : zf_walk w2 y2 r2) {Q : zf_Me → Prop} : ∀ (n : Nat) (v3 : Int32) (v4 : Int32) (m : zf_Me), wq_26_77 c1 r1 w2 y2 r2 Q n v3 v4 m → zf_W none 0 0 d zt_26 77 [some (.inr (.inr (1, 35))), none, none, some (.inl v3), some (.inl v4)] [] m (zf_O Q) := by
  obtain ⟨e, rfl⟩ : ∃ z, d = z + 1 := ⟨d - 1, by omega⟩
  intro n
  induction n with
  | zero =>
    intro v3 v4 m h
    exact h.elim
  | succ n ih =>
    intro v3 v4 m h
    unfold wq_26_77 at h
    refine zf_ld (pc' := 78) (v := .inl v3) dX4_read_77 rfl (fun _ _ _ => rfl) rfl rfl rfl ?_
    refine zf_if_eq (tgt := 143) (pc' := 81) dX4_read_78 rfl rfl (fun g => ?_) (fun g => ?_)
    · replace h := h.1 g
      exact zf_rv dX4_read_143 rfl h
    · replace h := h.2 g
      refine zf_ld (pc' := 83) (v := .inl v4) dX4_read_81 rfl (fun _ _ _ => rfl) rfl rfl rfl ?_
      refine zf_si (v := 160) (pc' := 86) dX4_read_83 rfl rfl ?_
      refine zf_icmp_gt (tgt := 143) (pc' := 89) dX4_read_86 rfl rfl (fun g => ?_) (fun g => ?_)
      · replace h := h.1 g
        exact zf_rv dX4_read_143 rfl h
      · replace h := h.2 g
        refine zf_ld (pc' := 90) (v := .inr (.inr (1, 35))) dX4_read_89 rfl (fun _ _ _ => rfl) rfl rfl rfl ?_
        refine zf_iv (k := 27) (pc' := 93) (r := []) dX4_read_90 rfl rfl rfl rfl (by decide) rfl rfl rfl (zr_27 (by omega) h) (zf_kO (fun m14 h => ?_))
        refine zf_ld (pc' := 94) (v := .inr (.inr (1, 35))) dX4_read_93 rfl (fun _ _ _ => rfl) rfl rfl rfl ?_
        refine zf_in (pc' := 95) (S' := [.inr (.inr (1, 35)), .inr (.inr (1, 35))]) dX4_read_94 rfl (fun _ _ _ => rfl) ?_
        refine zf_gfi (pc' := 98) dX4_read_95 rfl rfl (by decide) rfl rfl ?_
        refine zf_ic (v := 1) (pc' := 99) dX4_read_98 rfl rfl ?_
        refine zf_in (pc' := 100) (S' := [.inl ((m14.1 35 5) + 1), .inr (.inr (1, 35))]) dX4_read_99 rfl (fun _ _ _ => rfl) ?_
        refine zf_pf (pc' := 103) dX4_read_100 rfl rfl (by decide) rfl rfl rfl (fun m15 e16 => ?_)
        replace h := h m15 e16
        refine zf_ld (pc' := 104) (v := .inr (.inr (1, 35))) dX4_read_103 rfl (fun _ _ _ => rfl) rfl rfl rfl ?_
        refine zf_gfi (pc' := 107) dX4_read_104 rfl rfl (by decide) rfl rfl ?_
        refine zf_ic (v := (-1)) (pc' := 108) dX4_read_107 rfl rfl ?_
        refine zf_icmp_ne (tgt := 135) (pc' := 111) dX4_read_108 rfl rfl (fun g => ?_) (fun g => ?_)
        · replace h := h.1 g
          refine zf_ic (v := 0) (pc' := 136) dX4_read_135 rfl rfl ?_
          refine zf_st (pc' := 137) (L2 := [some (.inr (.inr (1, 35))), none, none, some (.inl 0), some (.inl v4)]) dX4_read_136 rfl (fun _ _ _ => rfl) rfl rfl rfl rfl rfl rfl ?_
          refine zf_ii (y := (v4 + 1)) (L2 := [some (.inr (.inr (1, 35))), none, none, some (.inl 0), some (.inl (v4 + 1))]) (pc' := 140) dX4_read_137 rfl rfl rfl rfl rfl ?_
          refine zf_goto (tgt := 77) dX4_read_140 rfl ?_
          exact zf_lo (ih _ _ _ h) ⟨rfl, rfl, rfl, trivial⟩
        · replace h := h.2 g
          refine zf_ld (pc' := 112) (v := .inr (.inr (1, 35))) dX4_read_111 rfl (fun _ _ _ => rfl) rfl rfl rfl ?_
          refine zf_gfi (pc' := 115) dX4_read_112 rfl rfl (by decide) rfl rfl ?_
          refine zf_ld (pc' := 116) (v := .inr (.inr (1, 35))) dX4_read_115 rfl (fun _ _ _ => rfl) rfl rfl rfl ?_
          refine zf_gfi (pc' := 119) dX4_read_116 rfl rfl (by decide) rfl rfl ?_
          refine zf_icmp_ge (tgt := 135) (pc' := 122) dX4_read_119 rfl rfl (fun g => ?_) (fun g => ?_)
          · replace h := h.1 g
            refine zf_ic (v := 0) (pc' := 136) dX4_read_135 rfl rfl ?_
            refine zf_st (pc' := 137) (L2 := [some (.inr (.inr (1, 35))), none, none, some (.inl 0), some (.inl v4)]) dX4_read_136 rfl (fun _ _ _ => rfl) rfl rfl rfl rfl rfl rfl ?_
            refine zf_ii (y := (v4 + 1)) (L2 := [some (.inr (.inr (1, 35))), none, none, some (.inl 0), some (.inl (v4 + 1))]) (pc' := 140) dX4_read_137 rfl rfl rfl rfl rfl ?_
            refine zf_goto (tgt := 77) dX4_read_140 rfl ?_
            exact zf_lo (ih _ _ _ h) ⟨rfl, rfl, rfl, trivial⟩
          · replace h := h.2 g
            refine zf_ld (pc' := 123) (v := .inr (.inr (1, 35))) dX4_read_122 rfl (fun _ _ _ => rfl) rfl rfl rfl ?_
            refine zf_bi (v := 59) (pc' := 125) dX4_read_123 rfl rfl ?_
            refine zf_iv (k := 39) (pc' := 128) (r := []) dX4_read_125 rfl rfl rfl rfl (by decide) rfl rfl rfl (zr_39 (by omega) h) (zf_kB (fun b17 m18 h => ?_))
            refine zf_ib_eq (tgt := 135) (pc' := 131) dX4_read_128 rfl rfl (fun g => ?_) (fun g => ?_)
            · replace h := h.1 g
              refine zf_ic (v := 0) (pc' := 136) dX4_read_135 rfl rfl ?_
              refine zf_st (pc' := 137) (L2 := [some (.inr (.inr (1, 35))), none, none, some (.inl 0), some (.inl v4)]) dX4_read_136 rfl (fun _ _ _ => rfl) rfl rfl rfl rfl rfl rfl ?_
              refine zf_ii (y := (v4 + 1)) (L2 := [some (.inr (.inr (1, 35))), none, none, some (.inl 0), some (.inl (v4 + 1))]) (pc' := 140) dX4_read_137 rfl rfl rfl rfl rfl ?_
              refine zf_goto (tgt := 77) dX4_read_140 rfl ?_
              exact zf_lo (ih _ _ _ h) ⟨rfl, rfl, rfl, trivial⟩
            · replace h := h.2 g
              refine zf_ic (v := 1) (pc' := 132) dX4_read_131 rfl rfl ?_
              refine zf_goto (tgt := 136) dX4_read_132 rfl ?_
              refine zf_st (pc' := 137) (L2 := [some (.inr (.inr (1, 35))), none, none, some (.inl 1), some (.inl v4)]) dX4_read_136 rfl (fun _ _ _ => rfl) rfl rfl rfl rfl rfl rfl ?_
              refine zf_ii (y := (v4 + 1)) (L2 := [some (.inr (.inr (1, 35))), none, none, some (.inl 1), some (.inl (v4 + 1))]) (pc' := 140) dX4_read_137 rfl rfl rfl rfl rfl ?_
              refine zf_goto (tgt := 77) dX4_read_140 rfl ?_
              exact zf_lo (ih _ _ _ h) ⟨rfl, rfl, rfl, trivial⟩
def wq_26_32 (c1 : Nat) (r1 : Nat) (w2 : Nat) (y2 : Nat) (r2 : Nat) (Q : zf_Me → Prop) : Nat → Int32 → zf_Me → Prop
  | 0, _, _ => False
  | n + 1, v3, m => ((v3.toInt ≥ ((m.1 35 2)).toInt → (∀ m7, m7 = zf_u m 35 3 0 → (∀ m9, m9 = zf_u m7 35 5 0 → (∀ m11, m11 = zf_u m9 35 6 (-1) → (∃ n77, wq_26_77 c1 r1 w2 y2 r2 Q n77 1 0 m11))))) ∧ (v3.toInt < ((m.1 35 2)).toInt → wp_24 c1 r1 v3 m (fun x19 m20 => ((0 ≤ (Int32.toInt v3) ∧ (Int32.toInt v3) < (160 : Int)) ∧ ∀ m21, m21 = zf_u m20 43 (Int32.toInt v3).toNat x19 → wq_26_32 c1 r1 w2 y2 r2 Q n (v3 + 1) m21))))
theorem zq_26_32 {d : Nat} (hd : 9 ≤ d) {c1 : Nat} {r1 : Nat} {w2 : Nat} {y2 : Nat} {r2 : Nat} (hp1 : zf_shelf c1 r1) (hp2 : zf_walk w2 y2 r2) {Q : zf_Me → Prop} : ∀ (n : Nat) (v3 : Int32) (m : zf_Me), wq_26_32 c1 r1 w2 y2 r2 Q n v3 m → zf_W none 0 0 d zt_26 32 [some (.inr (.inr (1, 35))), some (.inr (.inr (1, c1))), none, some (.inl v3), none] [] m (zf_O Q) := by
  obtain ⟨e, rfl⟩ : ∃ z, d = z + 1 := ⟨d - 1, by omega⟩
  intro n
  induction n with
  | zero =>
    intro v3 m h
    exact h.elim
  | succ n ih =>
    intro v3 m h
    unfold wq_26_32 at h
    refine zf_ld (pc' := 33) (v := .inl v3) dX4_read_32 rfl (fun _ _ _ => rfl) rfl rfl rfl ?_
    refine zf_ld (pc' := 34) (v := .inr (.inr (1, 35))) dX4_read_33 rfl (fun _ _ _ => rfl) rfl rfl rfl ?_
    refine zf_gfi (pc' := 37) dX4_read_34 rfl rfl (by decide) rfl rfl ?_
    refine zf_icmp_ge (tgt := 57) (pc' := 40) dX4_read_37 rfl rfl (fun g => ?_) (fun g => ?_)
    · replace h := h.1 g
      refine zf_ld (pc' := 58) (v := .inr (.inr (1, 35))) dX4_read_57 rfl (fun _ _ _ => rfl) rfl rfl rfl ?_
      refine zf_ic (v := 0) (pc' := 59) dX4_read_58 rfl rfl ?_
      refine zf_pf (pc' := 62) dX4_read_59 rfl rfl (by decide) rfl rfl rfl (fun m7 e8 => ?_)
      replace h := h m7 e8
      refine zf_ld (pc' := 63) (v := .inr (.inr (1, 35))) dX4_read_62 rfl (fun _ _ _ => rfl) rfl rfl rfl ?_
      refine zf_ic (v := 0) (pc' := 64) dX4_read_63 rfl rfl ?_
      refine zf_pf (pc' := 67) dX4_read_64 rfl rfl (by decide) rfl rfl rfl (fun m9 e10 => ?_)
      replace h := h m9 e10
      refine zf_ld (pc' := 68) (v := .inr (.inr (1, 35))) dX4_read_67 rfl (fun _ _ _ => rfl) rfl rfl rfl ?_
      refine zf_ic (v := (-1)) (pc' := 69) dX4_read_68 rfl rfl ?_
      refine zf_pf (pc' := 72) dX4_read_69 rfl rfl (by decide) rfl rfl rfl (fun m11 e12 => ?_)
      replace h := h m11 e12
      refine zf_ic (v := 1) (pc' := 73) dX4_read_72 rfl rfl ?_
      refine zf_st (pc' := 74) (L2 := [some (.inr (.inr (1, 35))), some (.inr (.inr (1, c1))), none, some (.inl 1), none]) dX4_read_73 rfl (fun _ _ _ => rfl) rfl rfl rfl rfl rfl rfl ?_
      refine zf_ic (v := 0) (pc' := 75) dX4_read_74 rfl rfl ?_
      refine zf_st (pc' := 77) (L2 := [some (.inr (.inr (1, 35))), some (.inr (.inr (1, c1))), none, some (.inl 1), some (.inl 0)]) dX4_read_75 rfl (fun _ _ _ => rfl) rfl rfl rfl rfl rfl rfl ?_
      obtain ⟨n77, h⟩ := h
      exact zf_lo (zq_26_77 (by omega) hp1 hp2 n77 _ _ _ h) ⟨rfl, rfl, rfl, trivial⟩
    · replace h := h.2 g
      refine zf_ld (pc' := 41) (v := .inr (.inr (1, 35))) dX4_read_40 rfl (fun _ _ _ => rfl) rfl rfl rfl ?_
      refine zf_gfr (pc' := 44) (b := 43) dX4_read_41 rfl rfl (by decide) rfl rfl ?_
      refine zf_ld (pc' := 45) (v := .inl v3) dX4_read_44 rfl (fun _ _ _ => rfl) rfl rfl rfl ?_
      refine zf_ld (pc' := 46) (v := .inr (.inr (1, c1))) dX4_read_45 rfl (fun _ _ _ => rfl) rfl rfl rfl ?_
      refine zf_ld (pc' := 47) (v := .inl v3) dX4_read_46 rfl (fun _ _ _ => rfl) rfl rfl rfl ?_
      refine zf_iv (k := 24) (pc' := 50) (r := [.inl v3, .inr (.inr (1, 43))]) dX4_read_47 rfl rfl rfl rfl hp1.1 hp1.2.1 rfl rfl (zr_24 (by omega) hp1 h) (zf_kI (fun x19 m20 h => ?_))
      refine zf_ias (pc' := 51) dX4_read_50 rfl (⟨by decide, rfl⟩ : zf_arr 43 160).1 (⟨by decide, rfl⟩ : zf_arr 43 160).2 h.1 rfl (fun m21 e22 => ?_)
      replace h := h.2 m21 e22
      refine zf_ii (y := (v3 + 1)) (L2 := [some (.inr (.inr (1, 35))), some (.inr (.inr (1, c1))), none, some (.inl (v3 + 1)), none]) (pc' := 54) dX4_read_51 rfl rfl rfl rfl rfl ?_
      refine zf_goto (tgt := 32) dX4_read_54 rfl ?_
      exact zf_lo (ih _ _ h) ⟨rfl, rfl, rfl, trivial⟩
def wp_26 (c1 : Nat) (r1 : Nat) (w2 : Nat) (y2 : Nat) (r2 : Nat) (m : zf_Me) (Q : zf_Me → Prop) : Prop := wp_63 37 y2 m (fun m2 => wp_43 36 37 42 w2 y2 r2 m2 (fun m4 => (∀ m5, m5 = zf_u m4 35 2 (m4.1 c1 2) → (∃ n32, wq_26_32 c1 r1 w2 y2 r2 Q n32 0 m5))))
theorem zr_26 {d : Nat} (hd : 9 ≤ d) {c1 : Nat} {r1 : Nat} {w2 : Nat} {y2 : Nat} {r2 : Nat} (hp1 : zf_shelf c1 r1) (hp2 : zf_walk w2 y2 r2) {Q : zf_Me → Prop} {m : zf_Me} (h : wp_26 c1 r1 w2 y2 r2 m Q) : zf_M d 26 [.inr (.inr (1, 35)), .inr (.inr (1, c1)), .inr (.inr (1, w2))] m (zf_O Q) := by
  obtain ⟨e, rfl⟩ : ∃ z, d = z + 1 := ⟨d - 1, by omega⟩
  unfold wp_26 at h
  refine zf_M_of (Nat.le_of_ble_eq_true rfl) zm_26 (L := [some (.inr (.inr (1, 35))), some (.inr (.inr (1, c1))), some (.inr (.inr (1, w2))), none, none]) rfl ?_
  refine zf_ld (pc' := 1) (v := .inr (.inr (1, 35))) dX4_read_0 rfl (fun _ _ _ => rfl) rfl rfl rfl ?_
  refine zf_gfr (pc' := 4) (b := 36) dX4_read_1 rfl rfl (by decide) rfl rfl ?_
  refine zf_gfr (pc' := 7) (b := 37) dX4_read_4 rfl rfl zf_walk36.1 zf_walk36.2.1 rfl ?_
  refine zf_ld (pc' := 8) (v := .inr (.inr (1, w2))) dX4_read_7 rfl (fun _ _ _ => rfl) rfl rfl rfl ?_
  refine zf_gfr (pc' := 11) (b := y2) dX4_read_8 rfl rfl hp2.1 hp2.2.1 rfl ?_
  refine zf_iv (k := 63) (pc' := 14) (r := []) dX4_read_11 rfl rfl rfl rfl zf_walk36.2.2.1.1 zf_walk36.2.2.1.2.1 rfl rfl (zr_63 (by omega) zf_walk36.2.2.1 hp2.2.2.1 h) (zf_kO (fun m2 h => ?_))
  refine zf_ld (pc' := 15) (v := .inr (.inr (1, 35))) dX4_read_14 rfl (fun _ _ _ => rfl) rfl rfl rfl ?_
  refine zf_gfr (pc' := 18) (b := 36) dX4_read_15 rfl rfl (by decide) rfl rfl ?_
  refine zf_ld (pc' := 19) (v := .inr (.inr (1, w2))) dX4_read_18 rfl (fun _ _ _ => rfl) rfl rfl rfl ?_
  refine zf_iv (k := 43) (pc' := 22) (r := []) dX4_read_19 rfl rfl rfl rfl zf_walk36.1 zf_walk36.2.1 rfl rfl (zr_43 (by omega) zf_walk36 hp2 h) (zf_kO (fun m4 h => ?_))
  refine zf_ld (pc' := 23) (v := .inr (.inr (1, 35))) dX4_read_22 rfl (fun _ _ _ => rfl) rfl rfl rfl ?_
  refine zf_ld (pc' := 24) (v := .inr (.inr (1, c1))) dX4_read_23 rfl (fun _ _ _ => rfl) rfl rfl rfl ?_
  refine zf_gfi (pc' := 27) dX4_read_24 rfl rfl hp1.1 hp1.2.1 rfl ?_
  refine zf_pf (pc' := 30) dX4_read_27 rfl rfl (by decide) rfl rfl rfl (fun m5 e6 => ?_)
  replace h := h m5 e6
  refine zf_ic (v := 0) (pc' := 31) dX4_read_30 rfl rfl ?_
  refine zf_st (pc' := 32) (L2 := [some (.inr (.inr (1, 35))), some (.inr (.inr (1, c1))), some (.inr (.inr (1, w2))), some (.inl 0), none]) dX4_read_31 rfl (fun _ _ _ => rfl) rfl rfl rfl rfl rfl rfl ?_
  obtain ⟨n32, h⟩ := h
  exact zf_lo (zq_26_32 (by omega) hp1 hp2 n32 _ _ h) ⟨rfl, rfl, rfl, trivial⟩
def zt_45 : zx_MT := (5, yX5_asked, cX5_asked, 2, (some FieldType.int), 1, 0)
theorem zm_45 : zx_m 45 = zt_45 := rfl
theorem dX5_asked_0 : decode cX5_asked 0 = .ok (.iload_n 1, 1) := zdc_ok (by decide +kernel)
theorem dX5_asked_1 : decode cX5_asked 1 = .ok (.tableswitch 51 0 3 #[31, 36, 41, 46], 31) := by decide +kernel
theorem dX5_asked_r32 : zdcP cX5_asked 32 [(.aload_n 0, 1), (.getfield 19, 3), (.ireturn, 1), (.aload_n 0, 1), (.getfield 25, 3), (.ireturn, 1), (.aload_n 0, 1), (.getfield 37, 3), (.ireturn, 1), (.aload_n 0, 1), (.getfield 31, 3), (.ireturn, 1), (.aload_n 0, 1), (.getfield 34, 3), (.ireturn, 1)] := zdcA_ok (by decide +kernel)
theorem dX5_asked_32 : decode cX5_asked 32 = .ok (.aload_n 0, 1) := dX5_asked_r32.1
theorem dX5_asked_33 : decode cX5_asked 33 = .ok (.getfield 19, 3) := dX5_asked_r32.2.1
theorem dX5_asked_36 : decode cX5_asked 36 = .ok (.ireturn, 1) := dX5_asked_r32.2.2.1
theorem dX5_asked_37 : decode cX5_asked 37 = .ok (.aload_n 0, 1) := dX5_asked_r32.2.2.2.1
theorem dX5_asked_38 : decode cX5_asked 38 = .ok (.getfield 25, 3) := dX5_asked_r32.2.2.2.2.1
theorem dX5_asked_41 : decode cX5_asked 41 = .ok (.ireturn, 1) := dX5_asked_r32.2.2.2.2.2.1
theorem dX5_asked_42 : decode cX5_asked 42 = .ok (.aload_n 0, 1) := dX5_asked_r32.2.2.2.2.2.2.1
theorem dX5_asked_43 : decode cX5_asked 43 = .ok (.getfield 37, 3) := dX5_asked_r32.2.2.2.2.2.2.2.1
theorem dX5_asked_46 : decode cX5_asked 46 = .ok (.ireturn, 1) := dX5_asked_r32.2.2.2.2.2.2.2.2.1
theorem dX5_asked_47 : decode cX5_asked 47 = .ok (.aload_n 0, 1) := dX5_asked_r32.2.2.2.2.2.2.2.2.2.1
theorem dX5_asked_48 : decode cX5_asked 48 = .ok (.getfield 31, 3) := dX5_asked_r32.2.2.2.2.2.2.2.2.2.2.1
theorem dX5_asked_51 : decode cX5_asked 51 = .ok (.ireturn, 1) := dX5_asked_r32.2.2.2.2.2.2.2.2.2.2.2.1
theorem dX5_asked_52 : decode cX5_asked 52 = .ok (.aload_n 0, 1) := dX5_asked_r32.2.2.2.2.2.2.2.2.2.2.2.2.1
theorem dX5_asked_53 : decode cX5_asked 53 = .ok (.getfield 34, 3) := dX5_asked_r32.2.2.2.2.2.2.2.2.2.2.2.2.2.1
theorem dX5_asked_56 : decode cX5_asked 56 = .ok (.ireturn, 1) := dX5_asked_r32.2.2.2.2.2.2.2.2.2.2.2.2.2.2.1
def wp_45 (w0 : Nat) (y0 : Nat) (r0 : Nat) (v1 : Int32) (m : zf_Me) (Q : Int32 → zf_Me → Prop) : Prop := (((v1.toInt < 0 ∨ v1.toInt > 3) → Q (m.1 w0 8) m) ∧ (v1.toInt = 0 → Q (m.1 w0 3) m) ∧ (v1.toInt = 1 → Q (m.1 w0 5) m) ∧ (v1.toInt = 2 → Q (m.1 w0 9) m) ∧ (v1.toInt = 3 → Q (m.1 w0 7) m))
theorem zr_45 {d : Nat} (hd : 0 ≤ d) {w0 : Nat} {y0 : Nat} {r0 : Nat} (hp0 : zf_walk w0 y0 r0) {v1 : Int32} {Q : Int32 → zf_Me → Prop} {m : zf_Me} (h : wp_45 w0 y0 r0 v1 m Q) : zf_M d 45 [.inr (.inr (1, w0)), .inl v1] m (zf_I Q) := by
  unfold wp_45 at h
  refine zf_M_of (Nat.le_of_ble_eq_true rfl) zm_45 (L := [some (.inr (.inr (1, w0))), some (.inl v1)]) rfl ?_
  refine zf_ld (pc' := 1) (v := .inl v1) dX5_asked_0 rfl (fun _ _ _ => rfl) rfl rfl rfl ?_
  refine zf_tsc (tgd := 52) dX5_asked_1 rfl [32, 37, 42, 47] (by decide) (by decide) (fun g => ?_) (zl_cons (fun g => ?_) (zl_cons (fun g => ?_) (zl_cons (fun g => ?_) (zl_cons (fun g => ?_) (zl_nil)))))
  · replace h := h.1 (by omega)
    refine zf_ld (pc' := 53) (v := .inr (.inr (1, w0))) dX5_asked_52 rfl (fun _ _ _ => rfl) rfl rfl rfl ?_
    refine zf_gfi (pc' := 56) dX5_asked_53 rfl rfl hp0.1 hp0.2.1 rfl ?_
    exact zf_ri dX5_asked_56 rfl h
  · replace h := h.2.1 (by omega)
    refine zf_ld (pc' := 33) (v := .inr (.inr (1, w0))) dX5_asked_32 rfl (fun _ _ _ => rfl) rfl rfl rfl ?_
    refine zf_gfi (pc' := 36) dX5_asked_33 rfl rfl hp0.1 hp0.2.1 rfl ?_
    exact zf_ri dX5_asked_36 rfl h
  · replace h := h.2.2.1 (by omega)
    refine zf_ld (pc' := 38) (v := .inr (.inr (1, w0))) dX5_asked_37 rfl (fun _ _ _ => rfl) rfl rfl rfl ?_
    refine zf_gfi (pc' := 41) dX5_asked_38 rfl rfl hp0.1 hp0.2.1 rfl ?_
    exact zf_ri dX5_asked_41 rfl h
  · replace h := h.2.2.2.1 (by omega)
    refine zf_ld (pc' := 43) (v := .inr (.inr (1, w0))) dX5_asked_42 rfl (fun _ _ _ => rfl) rfl rfl rfl ?_
    refine zf_gfi (pc' := 46) dX5_asked_43 rfl rfl hp0.1 hp0.2.1 rfl ?_
    exact zf_ri dX5_asked_46 rfl h
  · replace h := h.2.2.2.2 (by omega)
    refine zf_ld (pc' := 48) (v := .inr (.inr (1, w0))) dX5_asked_47 rfl (fun _ _ _ => rfl) rfl rfl rfl ?_
    refine zf_gfi (pc' := 51) dX5_asked_48 rfl rfl hp0.1 hp0.2.1 rfl ?_
    exact zf_ri dX5_asked_51 rfl h
def zt_50 : zx_MT := (5, yX5_minutesThereAndBack, cX5_minutesThereAndBack, 1, (some FieldType.int), 0, 0)
theorem zm_50 : zx_m 50 = zt_50 := rfl
theorem dX5_minutesThereAndBack_r0 : zdcP cX5_minutesThereAndBack 0 [(.aload_n 0, 1), (.getfield 43, 3), (.bipush 9, 2), (.aload_n 0, 1), (.getfield 40, 3), (.imul, 1), (.iadd, 1), (.ireturn, 1)] := zdcA_ok (by decide +kernel)
theorem dX5_minutesThereAndBack_0 : decode cX5_minutesThereAndBack 0 = .ok (.aload_n 0, 1) := dX5_minutesThereAndBack_r0.1
theorem dX5_minutesThereAndBack_1 : decode cX5_minutesThereAndBack 1 = .ok (.getfield 43, 3) := dX5_minutesThereAndBack_r0.2.1
theorem dX5_minutesThereAndBack_4 : decode cX5_minutesThereAndBack 4 = .ok (.bipush 9, 2) := dX5_minutesThereAndBack_r0.2.2.1
theorem dX5_minutesThereAndBack_6 : decode cX5_minutesThereAndBack 6 = .ok (.aload_n 0, 1) := dX5_minutesThereAndBack_r0.2.2.2.1
theorem dX5_minutesThereAndBack_7 : decode cX5_minutesThereAndBack 7 = .ok (.getfield 40, 3) := dX5_minutesThereAndBack_r0.2.2.2.2.1
theorem dX5_minutesThereAndBack_10 : decode cX5_minutesThereAndBack 10 = .ok (.imul, 1) := dX5_minutesThereAndBack_r0.2.2.2.2.2.1
theorem dX5_minutesThereAndBack_11 : decode cX5_minutesThereAndBack 11 = .ok (.iadd, 1) := dX5_minutesThereAndBack_r0.2.2.2.2.2.2.1
theorem dX5_minutesThereAndBack_12 : decode cX5_minutesThereAndBack 12 = .ok (.ireturn, 1) := dX5_minutesThereAndBack_r0.2.2.2.2.2.2.2.1
def wp_50 (w0 : Nat) (y0 : Nat) (r0 : Nat) (m : zf_Me) (Q : Int32 → zf_Me → Prop) : Prop := Q ((m.1 w0 11) + (9 * (m.1 w0 10))) m
theorem zr_50 {d : Nat} (hd : 0 ≤ d) {w0 : Nat} {y0 : Nat} {r0 : Nat} (hp0 : zf_walk w0 y0 r0) {Q : Int32 → zf_Me → Prop} {m : zf_Me} (h : wp_50 w0 y0 r0 m Q) : zf_M d 50 [.inr (.inr (1, w0))] m (zf_I Q) := by
  unfold wp_50 at h
  refine zf_M_of (Nat.le_of_ble_eq_true rfl) zm_50 (L := [some (.inr (.inr (1, w0)))]) rfl ?_
  refine zf_ld (pc' := 1) (v := .inr (.inr (1, w0))) dX5_minutesThereAndBack_0 rfl (fun _ _ _ => rfl) rfl rfl rfl ?_
  refine zf_gfi (pc' := 4) dX5_minutesThereAndBack_1 rfl rfl hp0.1 hp0.2.1 rfl ?_
  refine zf_bi (v := 9) (pc' := 6) dX5_minutesThereAndBack_4 rfl rfl ?_
  refine zf_ld (pc' := 7) (v := .inr (.inr (1, w0))) dX5_minutesThereAndBack_6 rfl (fun _ _ _ => rfl) rfl rfl rfl ?_
  refine zf_gfi (pc' := 10) dX5_minutesThereAndBack_7 rfl rfl hp0.1 hp0.2.1 rfl ?_
  refine zf_in (pc' := 11) (S' := [.inl (9 * (m.1 w0 10)), .inl (m.1 w0 11)]) dX5_minutesThereAndBack_10 rfl (fun _ _ _ => rfl) ?_
  refine zf_in (pc' := 12) (S' := [.inl ((m.1 w0 11) + (9 * (m.1 w0 10)))]) dX5_minutesThereAndBack_11 rfl (fun _ _ _ => rfl) ?_
  exact zf_ri dX5_minutesThereAndBack_12 rfl h
def zt_61 : zx_MT := (5, yX5_draw, cX5_draw, 2, (some FieldType.int), 1, 0)
theorem zm_61 : zx_m 61 = zt_61 := rfl
theorem dX5_draw_r0 : zdcP cX5_draw 0 [(.aload_n 0, 1), (.aload_n 0, 1), (.getfield 46, 3), (.ldc 131, 2), (.imul, 1), (.sipush 12345, 3), (.iadd, 1), (.putfield 46, 3), (.iload_n 1, 1), (.ifCond .le 15, 3), (.aload_n 0, 1), (.getfield 46, 3), (.bipush 16, 2), (.iushr, 1), (.iload_n 1, 1), (.irem, 1)] := zdcA_ok (by decide +kernel)
theorem dX5_draw_0 : decode cX5_draw 0 = .ok (.aload_n 0, 1) := dX5_draw_r0.1
theorem dX5_draw_1 : decode cX5_draw 1 = .ok (.aload_n 0, 1) := dX5_draw_r0.2.1
theorem dX5_draw_2 : decode cX5_draw 2 = .ok (.getfield 46, 3) := dX5_draw_r0.2.2.1
theorem dX5_draw_5 : decode cX5_draw 5 = .ok (.ldc 131, 2) := dX5_draw_r0.2.2.2.1
theorem dX5_draw_7 : decode cX5_draw 7 = .ok (.imul, 1) := dX5_draw_r0.2.2.2.2.1
theorem dX5_draw_8 : decode cX5_draw 8 = .ok (.sipush 12345, 3) := dX5_draw_r0.2.2.2.2.2.1
theorem dX5_draw_11 : decode cX5_draw 11 = .ok (.iadd, 1) := dX5_draw_r0.2.2.2.2.2.2.1
theorem dX5_draw_12 : decode cX5_draw 12 = .ok (.putfield 46, 3) := dX5_draw_r0.2.2.2.2.2.2.2.1
theorem dX5_draw_15 : decode cX5_draw 15 = .ok (.iload_n 1, 1) := dX5_draw_r0.2.2.2.2.2.2.2.2.1
theorem dX5_draw_16 : decode cX5_draw 16 = .ok (.ifCond .le 15, 3) := dX5_draw_r0.2.2.2.2.2.2.2.2.2.1
theorem dX5_draw_19 : decode cX5_draw 19 = .ok (.aload_n 0, 1) := dX5_draw_r0.2.2.2.2.2.2.2.2.2.2.1
theorem dX5_draw_20 : decode cX5_draw 20 = .ok (.getfield 46, 3) := dX5_draw_r0.2.2.2.2.2.2.2.2.2.2.2.1
theorem dX5_draw_23 : decode cX5_draw 23 = .ok (.bipush 16, 2) := dX5_draw_r0.2.2.2.2.2.2.2.2.2.2.2.2.1
theorem dX5_draw_25 : decode cX5_draw 25 = .ok (.iushr, 1) := dX5_draw_r0.2.2.2.2.2.2.2.2.2.2.2.2.2.1
theorem dX5_draw_26 : decode cX5_draw 26 = .ok (.iload_n 1, 1) := dX5_draw_r0.2.2.2.2.2.2.2.2.2.2.2.2.2.2.1
theorem dX5_draw_27 : decode cX5_draw 27 = .ok (.irem, 1) := dX5_draw_r0.2.2.2.2.2.2.2.2.2.2.2.2.2.2.2.1
theorem dX5_draw_r28 : zdcP cX5_draw 28 [(.goto 4, 3), (.iconst 0, 1), (.ireturn, 1)] := zdcA_ok (by decide +kernel)
theorem dX5_draw_28 : decode cX5_draw 28 = .ok (.goto 4, 3) := dX5_draw_r28.1
theorem dX5_draw_31 : decode cX5_draw 31 = .ok (.iconst 0, 1) := dX5_draw_r28.2.1
theorem dX5_draw_32 : decode cX5_draw 32 = .ok (.ireturn, 1) := dX5_draw_r28.2.2.1
def wp_61 (w0 : Nat) (y0 : Nat) (r0 : Nat) (v1 : Int32) (m : zf_Me) (Q : Int32 → zf_Me → Prop) : Prop := (∀ m1, m1 = zf_u m w0 12 (((m.1 w0 12) * 1103515245) + 12345) → ((v1.toInt ≤ 0 → Q 0 m1) ∧ (v1.toInt > 0 → (¬ (Int32.toInt v1) = 0 ∧ Q ((((Int32.toUInt32 (m1.1 w0 12)) >>> ((Int32.toUInt32 16) &&& Int32.toUInt32 31)).toInt32) - (((Int32.toUInt32 (m1.1 w0 12)) >>> ((Int32.toUInt32 16) &&& Int32.toUInt32 31)).toInt32) / v1 * v1) m1))))
theorem zr_61 {d : Nat} (hd : 0 ≤ d) {w0 : Nat} {y0 : Nat} {r0 : Nat} (hp0 : zf_walk w0 y0 r0) {v1 : Int32} {Q : Int32 → zf_Me → Prop} {m : zf_Me} (h : wp_61 w0 y0 r0 v1 m Q) : zf_M d 61 [.inr (.inr (1, w0)), .inl v1] m (zf_I Q) := by
  unfold wp_61 at h
  refine zf_M_of (Nat.le_of_ble_eq_true rfl) zm_61 (L := [some (.inr (.inr (1, w0))), some (.inl v1)]) rfl ?_
  refine zf_ld (pc' := 1) (v := .inr (.inr (1, w0))) dX5_draw_0 rfl (fun _ _ _ => rfl) rfl rfl rfl ?_
  refine zf_ld (pc' := 2) (v := .inr (.inr (1, w0))) dX5_draw_1 rfl (fun _ _ _ => rfl) rfl rfl rfl ?_
  refine zf_gfi (pc' := 5) dX5_draw_2 rfl rfl hp0.1 hp0.2.1 rfl ?_
  refine zf_ldc (ix := 131) (v := 1103515245) (pc' := 7) dX5_draw_5 rfl (fun _ _ _ => rfl) rfl rfl ?_
  refine zf_in (pc' := 8) (S' := [.inl ((m.1 w0 12) * 1103515245), .inr (.inr (1, w0))]) dX5_draw_7 rfl (fun _ _ _ => rfl) ?_
  refine zf_si (v := 12345) (pc' := 11) dX5_draw_8 rfl rfl ?_
  refine zf_in (pc' := 12) (S' := [.inl (((m.1 w0 12) * 1103515245) + 12345), .inr (.inr (1, w0))]) dX5_draw_11 rfl (fun _ _ _ => rfl) ?_
  refine zf_pf (pc' := 15) dX5_draw_12 rfl rfl hp0.1 hp0.2.1 rfl rfl (fun m1 e2 => ?_)
  replace h := h m1 e2
  refine zf_ld (pc' := 16) (v := .inl v1) dX5_draw_15 rfl (fun _ _ _ => rfl) rfl rfl rfl ?_
  refine zf_if_le (tgt := 31) (pc' := 19) dX5_draw_16 rfl rfl (fun g => ?_) (fun g => ?_)
  · replace h := h.1 g
    refine zf_ic (v := 0) (pc' := 32) dX5_draw_31 rfl rfl ?_
    exact zf_ri dX5_draw_32 rfl h
  · replace h := h.2 g
    refine zf_ld (pc' := 20) (v := .inr (.inr (1, w0))) dX5_draw_19 rfl (fun _ _ _ => rfl) rfl rfl rfl ?_
    refine zf_gfi (pc' := 23) dX5_draw_20 rfl rfl hp0.1 hp0.2.1 rfl ?_
    refine zf_bi (v := 16) (pc' := 25) dX5_draw_23 rfl rfl ?_
    refine zf_in (pc' := 26) (S' := [.inl (((Int32.toUInt32 (m1.1 w0 12)) >>> ((Int32.toUInt32 16) &&& Int32.toUInt32 31)).toInt32)]) dX5_draw_25 rfl (fun _ _ _ => rfl) ?_
    refine zf_ld (pc' := 27) (v := .inl v1) dX5_draw_26 rfl (fun _ _ _ => rfl) rfl rfl rfl ?_
    refine zf_rem (pc' := 28) dX5_draw_27 rfl (fun z => h.1 (congrArg Int32.toInt z)) ?_
    replace h := h.2
    refine zf_goto (tgt := 32) dX5_draw_28 rfl ?_
    exact zf_ri dX5_draw_32 rfl h
def zt_64 : zx_MT := (6, yX6_hasFurlong, cX6_hasFurlong, 2, (some FieldType.boolean), 1, 0)
theorem zm_64 : zx_m 64 = zt_64 := rfl
theorem dX6_hasFurlong_r0 : zdcP cX6_hasFurlong 0 [(.iload_n 1, 1), (.ifCond .lt 15, 3), (.iload_n 1, 1), (.aload_n 0, 1), (.getfield 24, 3), (.if_icmp .ge 7, 3), (.iconst 1, 1), (.goto 4, 3), (.iconst 0, 1), (.ireturn, 1)] := zdcA_ok (by decide +kernel)
theorem dX6_hasFurlong_0 : decode cX6_hasFurlong 0 = .ok (.iload_n 1, 1) := dX6_hasFurlong_r0.1
theorem dX6_hasFurlong_1 : decode cX6_hasFurlong 1 = .ok (.ifCond .lt 15, 3) := dX6_hasFurlong_r0.2.1
theorem dX6_hasFurlong_4 : decode cX6_hasFurlong 4 = .ok (.iload_n 1, 1) := dX6_hasFurlong_r0.2.2.1
theorem dX6_hasFurlong_5 : decode cX6_hasFurlong 5 = .ok (.aload_n 0, 1) := dX6_hasFurlong_r0.2.2.2.1
theorem dX6_hasFurlong_6 : decode cX6_hasFurlong 6 = .ok (.getfield 24, 3) := dX6_hasFurlong_r0.2.2.2.2.1
theorem dX6_hasFurlong_9 : decode cX6_hasFurlong 9 = .ok (.if_icmp .ge 7, 3) := dX6_hasFurlong_r0.2.2.2.2.2.1
theorem dX6_hasFurlong_12 : decode cX6_hasFurlong 12 = .ok (.iconst 1, 1) := dX6_hasFurlong_r0.2.2.2.2.2.2.1
theorem dX6_hasFurlong_13 : decode cX6_hasFurlong 13 = .ok (.goto 4, 3) := dX6_hasFurlong_r0.2.2.2.2.2.2.2.1
theorem dX6_hasFurlong_16 : decode cX6_hasFurlong 16 = .ok (.iconst 0, 1) := dX6_hasFurlong_r0.2.2.2.2.2.2.2.2.1
theorem dX6_hasFurlong_17 : decode cX6_hasFurlong 17 = .ok (.ireturn, 1) := dX6_hasFurlong_r0.2.2.2.2.2.2.2.2.2.1
def wp_64 (y0 : Nat) (v1 : Int32) (m : zf_Me) (Q : Bool → zf_Me → Prop) : Prop := ((v1.toInt < 0 → Q false m) ∧ (v1.toInt ≥ 0 → ((v1.toInt ≥ ((m.1 y0 4)).toInt → Q false m) ∧ (v1.toInt < ((m.1 y0 4)).toInt → Q true m))))
theorem zr_64 {d : Nat} (hd : 0 ≤ d) {y0 : Nat} (hp0 : zf_way y0) {v1 : Int32} {Q : Bool → zf_Me → Prop} {m : zf_Me} (h : wp_64 y0 v1 m Q) : zf_M d 64 [.inr (.inr (1, y0)), .inl v1] m (zf_B Q) := by
  unfold wp_64 at h
  refine zf_M_of (Nat.le_of_ble_eq_true rfl) zm_64 (L := [some (.inr (.inr (1, y0))), some (.inl v1)]) rfl ?_
  refine zf_ld (pc' := 1) (v := .inl v1) dX6_hasFurlong_0 rfl (fun _ _ _ => rfl) rfl rfl rfl ?_
  refine zf_if_lt (tgt := 16) (pc' := 4) dX6_hasFurlong_1 rfl rfl (fun g => ?_) (fun g => ?_)
  · replace h := h.1 g
    refine zf_ic (v := 0) (pc' := 17) dX6_hasFurlong_16 rfl rfl ?_
    exact zf_rb (b := false) dX6_hasFurlong_17 rfl h
  · replace h := h.2 g
    refine zf_ld (pc' := 5) (v := .inl v1) dX6_hasFurlong_4 rfl (fun _ _ _ => rfl) rfl rfl rfl ?_
    refine zf_ld (pc' := 6) (v := .inr (.inr (1, y0))) dX6_hasFurlong_5 rfl (fun _ _ _ => rfl) rfl rfl rfl ?_
    refine zf_gfi (pc' := 9) dX6_hasFurlong_6 rfl rfl hp0.1 hp0.2.1 rfl ?_
    refine zf_icmp_ge (tgt := 16) (pc' := 12) dX6_hasFurlong_9 rfl rfl (fun g => ?_) (fun g => ?_)
    · replace h := h.1 g
      refine zf_ic (v := 0) (pc' := 17) dX6_hasFurlong_16 rfl rfl ?_
      exact zf_rb (b := false) dX6_hasFurlong_17 rfl h
    · replace h := h.2 g
      refine zf_ic (v := 1) (pc' := 13) dX6_hasFurlong_12 rfl rfl ?_
      refine zf_goto (tgt := 17) dX6_hasFurlong_13 rfl ?_
      exact zf_rb (b := true) dX6_hasFurlong_17 rfl h
def zt_114 : zx_MT := (7, yX7_isShelf, cX7_isShelf, 1, (some FieldType.boolean), 1, 1)
theorem zm_114 : zx_m 114 = zt_114 := rfl
theorem dX7_isShelf_r0 : zdcP cX7_isShelf 0 [(.iload_n 0, 1), (.ifCond .lt 13, 3), (.iload_n 0, 1), (.bipush 8, 2), (.if_icmp .ge 7, 3), (.iconst 1, 1), (.goto 4, 3), (.iconst 0, 1), (.ireturn, 1)] := zdcA_ok (by decide +kernel)
theorem dX7_isShelf_0 : decode cX7_isShelf 0 = .ok (.iload_n 0, 1) := dX7_isShelf_r0.1
theorem dX7_isShelf_1 : decode cX7_isShelf 1 = .ok (.ifCond .lt 13, 3) := dX7_isShelf_r0.2.1
theorem dX7_isShelf_4 : decode cX7_isShelf 4 = .ok (.iload_n 0, 1) := dX7_isShelf_r0.2.2.1
theorem dX7_isShelf_5 : decode cX7_isShelf 5 = .ok (.bipush 8, 2) := dX7_isShelf_r0.2.2.2.1
theorem dX7_isShelf_7 : decode cX7_isShelf 7 = .ok (.if_icmp .ge 7, 3) := dX7_isShelf_r0.2.2.2.2.1
theorem dX7_isShelf_10 : decode cX7_isShelf 10 = .ok (.iconst 1, 1) := dX7_isShelf_r0.2.2.2.2.2.1
theorem dX7_isShelf_11 : decode cX7_isShelf 11 = .ok (.goto 4, 3) := dX7_isShelf_r0.2.2.2.2.2.2.1
theorem dX7_isShelf_14 : decode cX7_isShelf 14 = .ok (.iconst 0, 1) := dX7_isShelf_r0.2.2.2.2.2.2.2.1
theorem dX7_isShelf_15 : decode cX7_isShelf 15 = .ok (.ireturn, 1) := dX7_isShelf_r0.2.2.2.2.2.2.2.2.1
def wp_114 (v0 : Int32) (m : zf_Me) (Q : Bool → zf_Me → Prop) : Prop := ((v0.toInt < 0 → Q false m) ∧ (v0.toInt ≥ 0 → ((v0.toInt ≥ 8 → Q false m) ∧ (v0.toInt < 8 → Q true m))))
theorem zr_114 {d : Nat} (hd : 0 ≤ d) {v0 : Int32} {Q : Bool → zf_Me → Prop} {m : zf_Me} (h : wp_114 v0 m Q) : zf_M d 114 [.inl v0] m (zf_B Q) := by
  unfold wp_114 at h
  refine zf_M_of (Nat.le_of_ble_eq_true rfl) zm_114 (L := [some (.inl v0)]) rfl ?_
  refine zf_ld (pc' := 1) (v := .inl v0) dX7_isShelf_0 rfl (fun _ _ _ => rfl) rfl rfl rfl ?_
  refine zf_if_lt (tgt := 14) (pc' := 4) dX7_isShelf_1 rfl rfl (fun g => ?_) (fun g => ?_)
  · replace h := h.1 g
    refine zf_ic (v := 0) (pc' := 15) dX7_isShelf_14 rfl rfl ?_
    exact zf_rb (b := false) dX7_isShelf_15 rfl h
  · replace h := h.2 g
    refine zf_ld (pc' := 5) (v := .inl v0) dX7_isShelf_4 rfl (fun _ _ _ => rfl) rfl rfl rfl ?_
    refine zf_bi (v := 8) (pc' := 7) dX7_isShelf_5 rfl rfl ?_
    refine zf_icmp_ge (tgt := 14) (pc' := 10) dX7_isShelf_7 rfl rfl (fun g => ?_) (fun g => ?_)
    · replace h := h.1 g
      refine zf_ic (v := 0) (pc' := 15) dX7_isShelf_14 rfl rfl ?_
      exact zf_rb (b := false) dX7_isShelf_15 rfl h
    · replace h := h.2 g
      refine zf_ic (v := 1) (pc' := 11) dX7_isShelf_10 rfl rfl ?_
      refine zf_goto (tgt := 15) dX7_isShelf_11 rfl ?_
      exact zf_rb (b := true) dX7_isShelf_15 rfl h
def zt_109 : zx_MT := (7, yX7_refuse, cX7_refuse, 2, (some FieldType.int), 1, 0)
theorem zm_109 : zx_m 109 = zt_109 := rfl
theorem dX7_refuse_r0 : zdcP cX7_refuse 0 [(.aload_n 0, 1), (.getfield 65, 3), (.iload_n 1, 1), (.dup2, 1), (.iaload, 1), (.iconst 1, 1), (.iadd, 1), (.iastore, 1), (.iload_n 1, 1), (.ineg, 1), (.ireturn, 1)] := zdcA_ok (by decide +kernel)
theorem dX7_refuse_0 : decode cX7_refuse 0 = .ok (.aload_n 0, 1) := dX7_refuse_r0.1
theorem dX7_refuse_1 : decode cX7_refuse 1 = .ok (.getfield 65, 3) := dX7_refuse_r0.2.1
theorem dX7_refuse_4 : decode cX7_refuse 4 = .ok (.iload_n 1, 1) := dX7_refuse_r0.2.2.1
theorem dX7_refuse_5 : decode cX7_refuse 5 = .ok (.dup2, 1) := dX7_refuse_r0.2.2.2.1
theorem dX7_refuse_6 : decode cX7_refuse 6 = .ok (.iaload, 1) := dX7_refuse_r0.2.2.2.2.1
theorem dX7_refuse_7 : decode cX7_refuse 7 = .ok (.iconst 1, 1) := dX7_refuse_r0.2.2.2.2.2.1
theorem dX7_refuse_8 : decode cX7_refuse 8 = .ok (.iadd, 1) := dX7_refuse_r0.2.2.2.2.2.2.1
theorem dX7_refuse_9 : decode cX7_refuse 9 = .ok (.iastore, 1) := dX7_refuse_r0.2.2.2.2.2.2.2.1
theorem dX7_refuse_10 : decode cX7_refuse 10 = .ok (.iload_n 1, 1) := dX7_refuse_r0.2.2.2.2.2.2.2.2.1
theorem dX7_refuse_11 : decode cX7_refuse 11 = .ok (.ineg, 1) := dX7_refuse_r0.2.2.2.2.2.2.2.2.2.1
theorem dX7_refuse_12 : decode cX7_refuse 12 = .ok (.ireturn, 1) := dX7_refuse_r0.2.2.2.2.2.2.2.2.2.2.1
def wp_109 (v1 : Int32) (m : zf_Me) (Q : Int32 → zf_Me → Prop) : Prop := ((0 ≤ (Int32.toInt v1) ∧ (Int32.toInt v1) < (8 : Int)) ∧ ((0 ≤ (Int32.toInt v1) ∧ (Int32.toInt v1) < (8 : Int)) ∧ ∀ m1, m1 = zf_u m 46 (Int32.toInt v1).toNat ((m.1 46 (Int32.toInt v1).toNat) + 1) → Q (-v1) m1))
theorem zr_109 {d : Nat} (hd : 0 ≤ d) {v1 : Int32} {Q : Int32 → zf_Me → Prop} {m : zf_Me} (h : wp_109 v1 m Q) : zf_M d 109 [.inr (.inr (1, 0)), .inl v1] m (zf_I Q) := by
  unfold wp_109 at h
  refine zf_M_of (Nat.le_of_ble_eq_true rfl) zm_109 (L := [some (.inr (.inr (1, 0))), some (.inl v1)]) rfl ?_
  refine zf_ld (pc' := 1) (v := .inr (.inr (1, 0))) dX7_refuse_0 rfl (fun _ _ _ => rfl) rfl rfl rfl ?_
  refine zf_gfr (pc' := 4) (b := 46) dX7_refuse_1 rfl rfl (by decide) rfl rfl ?_
  refine zf_ld (pc' := 5) (v := .inl v1) dX7_refuse_4 rfl (fun _ _ _ => rfl) rfl rfl rfl ?_
  refine zf_in (pc' := 6) (S' := [.inl v1, .inr (.inr (1, 46)), .inl v1, .inr (.inr (1, 46))]) dX7_refuse_5 rfl (fun _ _ _ => rfl) ?_
  refine zf_ial (pc' := 7) dX7_refuse_6 rfl (⟨by decide, rfl⟩ : zf_arr 46 8).1 (⟨by decide, rfl⟩ : zf_arr 46 8).2 h.1 rfl ?_
  replace h := h.2
  refine zf_ic (v := 1) (pc' := 8) dX7_refuse_7 rfl rfl ?_
  refine zf_in (pc' := 9) (S' := [.inl ((m.1 46 (Int32.toInt v1).toNat) + 1), .inl v1, .inr (.inr (1, 46))]) dX7_refuse_8 rfl (fun _ _ _ => rfl) ?_
  refine zf_ias (pc' := 10) dX7_refuse_9 rfl (⟨by decide, rfl⟩ : zf_arr 46 8).1 (⟨by decide, rfl⟩ : zf_arr 46 8).2 h.1 rfl (fun m1 e2 => ?_)
  replace h := h.2 m1 e2
  refine zf_ld (pc' := 11) (v := .inl v1) dX7_refuse_10 rfl (fun _ _ _ => rfl) rfl rfl rfl ?_
  refine zf_in (pc' := 12) (S' := [.inl (-v1)]) dX7_refuse_11 rfl (fun _ _ _ => rfl) ?_
  exact zf_ri dX7_refuse_12 rfl h
def zt_68 : zx_MT := (7, yX7_row, cX7_row, 4, (some FieldType.int), 3, 0)
theorem zm_68 : zx_m 68 = zt_68 := rfl
theorem dX7_row_r0 : zdcP cX7_row 0 [(.iload_n 1, 1), (.invokestatic 78, 3), (.ifCond .ne 9, 3), (.aload_n 0, 1), (.iconst 1, 1), (.invokevirtual 82, 3), (.ireturn, 1), (.iload_n 3, 1), (.ifCond .ge 9, 3), (.aload_n 0, 1), (.iconst 4, 1), (.invokevirtual 82, 3), (.ireturn, 1), (.iload_n 2, 1), (.ifCond .lt 8, 3), (.iload_n 2, 1)] := zdcA_ok (by decide +kernel)
theorem dX7_row_0 : decode cX7_row 0 = .ok (.iload_n 1, 1) := dX7_row_r0.1
theorem dX7_row_1 : decode cX7_row 1 = .ok (.invokestatic 78, 3) := dX7_row_r0.2.1
theorem dX7_row_4 : decode cX7_row 4 = .ok (.ifCond .ne 9, 3) := dX7_row_r0.2.2.1
theorem dX7_row_7 : decode cX7_row 7 = .ok (.aload_n 0, 1) := dX7_row_r0.2.2.2.1
theorem dX7_row_8 : decode cX7_row 8 = .ok (.iconst 1, 1) := dX7_row_r0.2.2.2.2.1
theorem dX7_row_9 : decode cX7_row 9 = .ok (.invokevirtual 82, 3) := dX7_row_r0.2.2.2.2.2.1
theorem dX7_row_12 : decode cX7_row 12 = .ok (.ireturn, 1) := dX7_row_r0.2.2.2.2.2.2.1
theorem dX7_row_13 : decode cX7_row 13 = .ok (.iload_n 3, 1) := dX7_row_r0.2.2.2.2.2.2.2.1
theorem dX7_row_14 : decode cX7_row 14 = .ok (.ifCond .ge 9, 3) := dX7_row_r0.2.2.2.2.2.2.2.2.1
theorem dX7_row_17 : decode cX7_row 17 = .ok (.aload_n 0, 1) := dX7_row_r0.2.2.2.2.2.2.2.2.2.1
theorem dX7_row_18 : decode cX7_row 18 = .ok (.iconst 4, 1) := dX7_row_r0.2.2.2.2.2.2.2.2.2.2.1
theorem dX7_row_19 : decode cX7_row 19 = .ok (.invokevirtual 82, 3) := dX7_row_r0.2.2.2.2.2.2.2.2.2.2.2.1
theorem dX7_row_22 : decode cX7_row 22 = .ok (.ireturn, 1) := dX7_row_r0.2.2.2.2.2.2.2.2.2.2.2.2.1
theorem dX7_row_23 : decode cX7_row 23 = .ok (.iload_n 2, 1) := dX7_row_r0.2.2.2.2.2.2.2.2.2.2.2.2.2.1
theorem dX7_row_24 : decode cX7_row 24 = .ok (.ifCond .lt 8, 3) := dX7_row_r0.2.2.2.2.2.2.2.2.2.2.2.2.2.2.1
theorem dX7_row_27 : decode cX7_row 27 = .ok (.iload_n 2, 1) := dX7_row_r0.2.2.2.2.2.2.2.2.2.2.2.2.2.2.2.1
theorem dX7_row_r28 : zdcP cX7_row 28 [(.iconst 4, 1), (.if_icmp .lt 10, 3), (.aload_n 0, 1), (.bipush 6, 2), (.invokevirtual 82, 3), (.ireturn, 1), (.iload_n 3, 1), (.sipush 160, 3), (.if_icmp .le 10, 3), (.aload_n 0, 1), (.bipush 7, 2), (.invokevirtual 82, 3), (.ireturn, 1), (.aload_n 0, 1), (.getfield 11, 3), (.iload_n 1, 1)] := zdcA_ok (by decide +kernel)
theorem dX7_row_28 : decode cX7_row 28 = .ok (.iconst 4, 1) := dX7_row_r28.1
theorem dX7_row_29 : decode cX7_row 29 = .ok (.if_icmp .lt 10, 3) := dX7_row_r28.2.1
theorem dX7_row_32 : decode cX7_row 32 = .ok (.aload_n 0, 1) := dX7_row_r28.2.2.1
theorem dX7_row_33 : decode cX7_row 33 = .ok (.bipush 6, 2) := dX7_row_r28.2.2.2.1
theorem dX7_row_35 : decode cX7_row 35 = .ok (.invokevirtual 82, 3) := dX7_row_r28.2.2.2.2.1
theorem dX7_row_38 : decode cX7_row 38 = .ok (.ireturn, 1) := dX7_row_r28.2.2.2.2.2.1
theorem dX7_row_39 : decode cX7_row 39 = .ok (.iload_n 3, 1) := dX7_row_r28.2.2.2.2.2.2.1
theorem dX7_row_40 : decode cX7_row 40 = .ok (.sipush 160, 3) := dX7_row_r28.2.2.2.2.2.2.2.1
theorem dX7_row_43 : decode cX7_row 43 = .ok (.if_icmp .le 10, 3) := dX7_row_r28.2.2.2.2.2.2.2.2.1
theorem dX7_row_46 : decode cX7_row 46 = .ok (.aload_n 0, 1) := dX7_row_r28.2.2.2.2.2.2.2.2.2.1
theorem dX7_row_47 : decode cX7_row 47 = .ok (.bipush 7, 2) := dX7_row_r28.2.2.2.2.2.2.2.2.2.2.1
theorem dX7_row_49 : decode cX7_row 49 = .ok (.invokevirtual 82, 3) := dX7_row_r28.2.2.2.2.2.2.2.2.2.2.2.1
theorem dX7_row_52 : decode cX7_row 52 = .ok (.ireturn, 1) := dX7_row_r28.2.2.2.2.2.2.2.2.2.2.2.2.1
theorem dX7_row_53 : decode cX7_row 53 = .ok (.aload_n 0, 1) := dX7_row_r28.2.2.2.2.2.2.2.2.2.2.2.2.2.1
theorem dX7_row_54 : decode cX7_row 54 = .ok (.getfield 11, 3) := dX7_row_r28.2.2.2.2.2.2.2.2.2.2.2.2.2.2.1
theorem dX7_row_57 : decode cX7_row 57 = .ok (.iload_n 1, 1) := dX7_row_r28.2.2.2.2.2.2.2.2.2.2.2.2.2.2.2.1
theorem dX7_row_r58 : zdcP cX7_row 58 [(.aaload, 1), (.iload_n 2, 1), (.iload_n 3, 1), (.invokevirtual 86, 3), (.iconst 1, 1), (.ireturn, 1)] := zdcA_ok (by decide +kernel)
theorem dX7_row_58 : decode cX7_row 58 = .ok (.aaload, 1) := dX7_row_r58.1
theorem dX7_row_59 : decode cX7_row 59 = .ok (.iload_n 2, 1) := dX7_row_r58.2.1
theorem dX7_row_60 : decode cX7_row 60 = .ok (.iload_n 3, 1) := dX7_row_r58.2.2.1
theorem dX7_row_61 : decode cX7_row 61 = .ok (.invokevirtual 86, 3) := dX7_row_r58.2.2.2.1
theorem dX7_row_64 : decode cX7_row 64 = .ok (.iconst 1, 1) := dX7_row_r58.2.2.2.2.1
theorem dX7_row_65 : decode cX7_row 65 = .ok (.ireturn, 1) := dX7_row_r58.2.2.2.2.2.1
def wp_68 (v1 : Int32) (v2 : Int32) (v3 : Int32) (m : zf_Me) (Q : Int32 → zf_Me → Prop) : Prop := wp_114 v1 m (fun b1 m2 => ((b1 = true → ((v3.toInt ≥ 0 → ((v2.toInt < 0 → wp_109 6 m2 (fun x3 m4 => Q x3 m4)) ∧ (v2.toInt ≥ 0 → ((v2.toInt < 4 → ((v3.toInt ≤ 160 → ((0 ≤ (Int32.toInt v1) ∧ (Int32.toInt v1) < 8) ∧ wp_22 (47 + 2 * (Int32.toInt v1).toNat) (48 + 2 * (Int32.toInt v1).toNat) v2 v3 m2 (fun m8 => Q 1 m8))) ∧ (v3.toInt > 160 → wp_109 7 m2 (fun x9 m10 => Q x9 m10)))) ∧ (v2.toInt ≥ 4 → wp_109 6 m2 (fun x11 m12 => Q x11 m12)))))) ∧ (v3.toInt < 0 → wp_109 4 m2 (fun x13 m14 => Q x13 m14)))) ∧ (b1 = false → wp_109 1 m2 (fun x15 m16 => Q x15 m16))))
theorem zr_68 {d : Nat} (hd : 1 ≤ d) {v1 : Int32} {v2 : Int32} {v3 : Int32} {Q : Int32 → zf_Me → Prop} {m : zf_Me} (h : wp_68 v1 v2 v3 m Q) : zf_M d 68 [.inr (.inr (1, 0)), .inl v1, .inl v2, .inl v3] m (zf_I Q) := by
  obtain ⟨e, rfl⟩ : ∃ z, d = z + 1 := ⟨d - 1, by omega⟩
  unfold wp_68 at h
  refine zf_M_of (Nat.le_of_ble_eq_true rfl) zm_68 (L := [some (.inr (.inr (1, 0))), some (.inl v1), some (.inl v2), some (.inl v3)]) rfl ?_
  refine zf_ld (pc' := 1) (v := .inl v1) dX7_row_0 rfl (fun _ _ _ => rfl) rfl rfl rfl ?_
  refine zf_is (k := 114) (pc' := 4) (r := []) dX7_row_1 rfl rfl rfl rfl rfl (zr_114 (by omega) h) (zf_kB (fun b1 m2 h => ?_))
  refine zf_ib_ne (tgt := 13) (pc' := 7) dX7_row_4 rfl rfl (fun g => ?_) (fun g => ?_)
  · replace h := h.1 g
    refine zf_ld (pc' := 14) (v := .inl v3) dX7_row_13 rfl (fun _ _ _ => rfl) rfl rfl rfl ?_
    refine zf_if_ge (tgt := 23) (pc' := 17) dX7_row_14 rfl rfl (fun g => ?_) (fun g => ?_)
    · replace h := h.1 g
      refine zf_ld (pc' := 24) (v := .inl v2) dX7_row_23 rfl (fun _ _ _ => rfl) rfl rfl rfl ?_
      refine zf_if_lt (tgt := 32) (pc' := 27) dX7_row_24 rfl rfl (fun g => ?_) (fun g => ?_)
      · replace h := h.1 g
        refine zf_ld (pc' := 33) (v := .inr (.inr (1, 0))) dX7_row_32 rfl (fun _ _ _ => rfl) rfl rfl rfl ?_
        refine zf_bi (v := 6) (pc' := 35) dX7_row_33 rfl rfl ?_
        refine zf_iv (k := 109) (pc' := 38) (r := []) dX7_row_35 rfl rfl rfl rfl (by decide) rfl rfl rfl (zr_109 (by omega) h) (zf_kI (fun x3 m4 h => ?_))
        exact zf_ri dX7_row_38 rfl h
      · replace h := h.2 g
        refine zf_ld (pc' := 28) (v := .inl v2) dX7_row_27 rfl (fun _ _ _ => rfl) rfl rfl rfl ?_
        refine zf_ic (v := 4) (pc' := 29) dX7_row_28 rfl rfl ?_
        refine zf_icmp_lt (tgt := 39) (pc' := 32) dX7_row_29 rfl rfl (fun g => ?_) (fun g => ?_)
        · replace h := h.1 g
          refine zf_ld (pc' := 40) (v := .inl v3) dX7_row_39 rfl (fun _ _ _ => rfl) rfl rfl rfl ?_
          refine zf_si (v := 160) (pc' := 43) dX7_row_40 rfl rfl ?_
          refine zf_icmp_le (tgt := 53) (pc' := 46) dX7_row_43 rfl rfl (fun g => ?_) (fun g => ?_)
          · replace h := h.1 g
            refine zf_ld (pc' := 54) (v := .inr (.inr (1, 0))) dX7_row_53 rfl (fun _ _ _ => rfl) rfl rfl rfl ?_
            refine zf_gfr (pc' := 57) (b := 1) dX7_row_54 rfl rfl (by decide) rfl rfl ?_
            refine zf_ld (pc' := 58) (v := .inl v1) dX7_row_57 rfl (fun _ _ _ => rfl) rfl rfl rfl ?_
            refine zf_aal (b := 47) (n := 8) (pc' := 59) dX7_row_58 rfl (by decide) rfl (by decide) rfl h.1 zf_row1 ?_
            have hb5 := h.1
            replace h := h.2
            have hx6 : zf_shelf (47 + 2 * (Int32.toInt v1).toNat) (48 + 2 * (Int32.toInt v1).toNat) := zf_shelves (by omega)
            refine zf_ld (pc' := 60) (v := .inl v2) dX7_row_59 rfl (fun _ _ _ => rfl) rfl rfl rfl ?_
            refine zf_ld (pc' := 61) (v := .inl v3) dX7_row_60 rfl (fun _ _ _ => rfl) rfl rfl rfl ?_
            refine zf_iv (k := 22) (pc' := 64) (r := []) dX7_row_61 rfl rfl rfl rfl hx6.1 hx6.2.1 rfl rfl (zr_22 (by omega) hx6 h) (zf_kO (fun m8 h => ?_))
            refine zf_ic (v := 1) (pc' := 65) dX7_row_64 rfl rfl ?_
            exact zf_ri dX7_row_65 rfl h
          · replace h := h.2 g
            refine zf_ld (pc' := 47) (v := .inr (.inr (1, 0))) dX7_row_46 rfl (fun _ _ _ => rfl) rfl rfl rfl ?_
            refine zf_bi (v := 7) (pc' := 49) dX7_row_47 rfl rfl ?_
            refine zf_iv (k := 109) (pc' := 52) (r := []) dX7_row_49 rfl rfl rfl rfl (by decide) rfl rfl rfl (zr_109 (by omega) h) (zf_kI (fun x9 m10 h => ?_))
            exact zf_ri dX7_row_52 rfl h
        · replace h := h.2 g
          refine zf_ld (pc' := 33) (v := .inr (.inr (1, 0))) dX7_row_32 rfl (fun _ _ _ => rfl) rfl rfl rfl ?_
          refine zf_bi (v := 6) (pc' := 35) dX7_row_33 rfl rfl ?_
          refine zf_iv (k := 109) (pc' := 38) (r := []) dX7_row_35 rfl rfl rfl rfl (by decide) rfl rfl rfl (zr_109 (by omega) h) (zf_kI (fun x11 m12 h => ?_))
          exact zf_ri dX7_row_38 rfl h
    · replace h := h.2 g
      refine zf_ld (pc' := 18) (v := .inr (.inr (1, 0))) dX7_row_17 rfl (fun _ _ _ => rfl) rfl rfl rfl ?_
      refine zf_ic (v := 4) (pc' := 19) dX7_row_18 rfl rfl ?_
      refine zf_iv (k := 109) (pc' := 22) (r := []) dX7_row_19 rfl rfl rfl rfl (by decide) rfl rfl rfl (zr_109 (by omega) h) (zf_kI (fun x13 m14 h => ?_))
      exact zf_ri dX7_row_22 rfl h
  · replace h := h.2 g
    refine zf_ld (pc' := 8) (v := .inr (.inr (1, 0))) dX7_row_7 rfl (fun _ _ _ => rfl) rfl rfl rfl ?_
    refine zf_ic (v := 1) (pc' := 9) dX7_row_8 rfl rfl ?_
    refine zf_iv (k := 109) (pc' := 12) (r := []) dX7_row_9 rfl rfl rfl rfl (by decide) rfl rfl rfl (zr_109 (by omega) h) (zf_kI (fun x15 m16 h => ?_))
    exact zf_ri dX7_row_12 rfl h
def zt_111 : zx_MT := (7, yX7_whyNoRow, cX7_whyNoRow, 2, (some FieldType.int), 1, 0)
theorem zm_111 : zx_m 111 = zt_111 := rfl
theorem dX7_whyNoRow_r0 : zdcP cX7_whyNoRow 0 [(.iload_n 1, 1), (.invokestatic 78, 3), (.ifCond .ne 5, 3), (.iconst 1, 1), (.ireturn, 1), (.aload_n 0, 1), (.getfield 11, 3), (.iload_n 1, 1), (.aaload, 1), (.invokevirtual 323, 3), (.ifCond .eq 5, 3), (.iconst 0, 1), (.ireturn, 1), (.aload_n 0, 1), (.getfield 11, 3), (.iload_n 1, 1)] := zdcA_ok (by decide +kernel)
theorem dX7_whyNoRow_0 : decode cX7_whyNoRow 0 = .ok (.iload_n 1, 1) := dX7_whyNoRow_r0.1
theorem dX7_whyNoRow_1 : decode cX7_whyNoRow 1 = .ok (.invokestatic 78, 3) := dX7_whyNoRow_r0.2.1
theorem dX7_whyNoRow_4 : decode cX7_whyNoRow 4 = .ok (.ifCond .ne 5, 3) := dX7_whyNoRow_r0.2.2.1
theorem dX7_whyNoRow_7 : decode cX7_whyNoRow 7 = .ok (.iconst 1, 1) := dX7_whyNoRow_r0.2.2.2.1
theorem dX7_whyNoRow_8 : decode cX7_whyNoRow 8 = .ok (.ireturn, 1) := dX7_whyNoRow_r0.2.2.2.2.1
theorem dX7_whyNoRow_9 : decode cX7_whyNoRow 9 = .ok (.aload_n 0, 1) := dX7_whyNoRow_r0.2.2.2.2.2.1
theorem dX7_whyNoRow_10 : decode cX7_whyNoRow 10 = .ok (.getfield 11, 3) := dX7_whyNoRow_r0.2.2.2.2.2.2.1
theorem dX7_whyNoRow_13 : decode cX7_whyNoRow 13 = .ok (.iload_n 1, 1) := dX7_whyNoRow_r0.2.2.2.2.2.2.2.1
theorem dX7_whyNoRow_14 : decode cX7_whyNoRow 14 = .ok (.aaload, 1) := dX7_whyNoRow_r0.2.2.2.2.2.2.2.2.1
theorem dX7_whyNoRow_15 : decode cX7_whyNoRow 15 = .ok (.invokevirtual 323, 3) := dX7_whyNoRow_r0.2.2.2.2.2.2.2.2.2.1
theorem dX7_whyNoRow_18 : decode cX7_whyNoRow 18 = .ok (.ifCond .eq 5, 3) := dX7_whyNoRow_r0.2.2.2.2.2.2.2.2.2.2.1
theorem dX7_whyNoRow_21 : decode cX7_whyNoRow 21 = .ok (.iconst 0, 1) := dX7_whyNoRow_r0.2.2.2.2.2.2.2.2.2.2.2.1
theorem dX7_whyNoRow_22 : decode cX7_whyNoRow 22 = .ok (.ireturn, 1) := dX7_whyNoRow_r0.2.2.2.2.2.2.2.2.2.2.2.2.1
theorem dX7_whyNoRow_23 : decode cX7_whyNoRow 23 = .ok (.aload_n 0, 1) := dX7_whyNoRow_r0.2.2.2.2.2.2.2.2.2.2.2.2.2.1
theorem dX7_whyNoRow_24 : decode cX7_whyNoRow 24 = .ok (.getfield 11, 3) := dX7_whyNoRow_r0.2.2.2.2.2.2.2.2.2.2.2.2.2.2.1
theorem dX7_whyNoRow_27 : decode cX7_whyNoRow 27 = .ok (.iload_n 1, 1) := dX7_whyNoRow_r0.2.2.2.2.2.2.2.2.2.2.2.2.2.2.2.1
theorem dX7_whyNoRow_r28 : zdcP cX7_whyNoRow 28 [(.aaload, 1), (.getfield 121, 3), (.iconst (-1), 1), (.if_icmp .ne 7, 3), (.iconst 3, 1), (.goto 4, 3), (.iconst 2, 1), (.ireturn, 1)] := zdcA_ok (by decide +kernel)
theorem dX7_whyNoRow_28 : decode cX7_whyNoRow 28 = .ok (.aaload, 1) := dX7_whyNoRow_r28.1
theorem dX7_whyNoRow_29 : decode cX7_whyNoRow 29 = .ok (.getfield 121, 3) := dX7_whyNoRow_r28.2.1
theorem dX7_whyNoRow_32 : decode cX7_whyNoRow 32 = .ok (.iconst (-1), 1) := dX7_whyNoRow_r28.2.2.1
theorem dX7_whyNoRow_33 : decode cX7_whyNoRow 33 = .ok (.if_icmp .ne 7, 3) := dX7_whyNoRow_r28.2.2.2.1
theorem dX7_whyNoRow_36 : decode cX7_whyNoRow 36 = .ok (.iconst 3, 1) := dX7_whyNoRow_r28.2.2.2.2.1
theorem dX7_whyNoRow_37 : decode cX7_whyNoRow 37 = .ok (.goto 4, 3) := dX7_whyNoRow_r28.2.2.2.2.2.1
theorem dX7_whyNoRow_40 : decode cX7_whyNoRow 40 = .ok (.iconst 2, 1) := dX7_whyNoRow_r28.2.2.2.2.2.2.1
theorem dX7_whyNoRow_41 : decode cX7_whyNoRow 41 = .ok (.ireturn, 1) := dX7_whyNoRow_r28.2.2.2.2.2.2.2.1
def wp_111 (v1 : Int32) (m : zf_Me) (Q : Int32 → zf_Me → Prop) : Prop := wp_114 v1 m (fun b1 m2 => ((b1 = true → ((0 ≤ (Int32.toInt v1) ∧ (Int32.toInt v1) < 8) ∧ wp_19 (47 + 2 * (Int32.toInt v1).toNat) (48 + 2 * (Int32.toInt v1).toNat) m2 (fun b5 m6 => ((b5 = false → ((0 ≤ (Int32.toInt v1) ∧ (Int32.toInt v1) < 8) ∧ ((¬ ((m6.1 (47 + 2 * (Int32.toInt v1).toNat) 1)).toInt = (-1) → Q 2 m6) ∧ (((m6.1 (47 + 2 * (Int32.toInt v1).toNat) 1)).toInt = (-1) → Q 3 m6)))) ∧ (b5 = true → Q 0 m6))))) ∧ (b1 = false → Q 1 m2)))
theorem zr_111 {d : Nat} (hd : 1 ≤ d) {v1 : Int32} {Q : Int32 → zf_Me → Prop} {m : zf_Me} (h : wp_111 v1 m Q) : zf_M d 111 [.inr (.inr (1, 0)), .inl v1] m (zf_I Q) := by
  obtain ⟨e, rfl⟩ : ∃ z, d = z + 1 := ⟨d - 1, by omega⟩
  unfold wp_111 at h
  refine zf_M_of (Nat.le_of_ble_eq_true rfl) zm_111 (L := [some (.inr (.inr (1, 0))), some (.inl v1)]) rfl ?_
  refine zf_ld (pc' := 1) (v := .inl v1) dX7_whyNoRow_0 rfl (fun _ _ _ => rfl) rfl rfl rfl ?_
  refine zf_is (k := 114) (pc' := 4) (r := []) dX7_whyNoRow_1 rfl rfl rfl rfl rfl (zr_114 (by omega) h) (zf_kB (fun b1 m2 h => ?_))
  refine zf_ib_ne (tgt := 9) (pc' := 7) dX7_whyNoRow_4 rfl rfl (fun g => ?_) (fun g => ?_)
  · replace h := h.1 g
    refine zf_ld (pc' := 10) (v := .inr (.inr (1, 0))) dX7_whyNoRow_9 rfl (fun _ _ _ => rfl) rfl rfl rfl ?_
    refine zf_gfr (pc' := 13) (b := 1) dX7_whyNoRow_10 rfl rfl (by decide) rfl rfl ?_
    refine zf_ld (pc' := 14) (v := .inl v1) dX7_whyNoRow_13 rfl (fun _ _ _ => rfl) rfl rfl rfl ?_
    refine zf_aal (b := 47) (n := 8) (pc' := 15) dX7_whyNoRow_14 rfl (by decide) rfl (by decide) rfl h.1 zf_row1 ?_
    have hb3 := h.1
    replace h := h.2
    have hx4 : zf_shelf (47 + 2 * (Int32.toInt v1).toNat) (48 + 2 * (Int32.toInt v1).toNat) := zf_shelves (by omega)
    refine zf_iv (k := 19) (pc' := 18) (r := []) dX7_whyNoRow_15 rfl rfl rfl rfl hx4.1 hx4.2.1 rfl rfl (zr_19 (by omega) hx4 h) (zf_kB (fun b5 m6 h => ?_))
    refine zf_ib_eq (tgt := 23) (pc' := 21) dX7_whyNoRow_18 rfl rfl (fun g => ?_) (fun g => ?_)
    · replace h := h.1 g
      refine zf_ld (pc' := 24) (v := .inr (.inr (1, 0))) dX7_whyNoRow_23 rfl (fun _ _ _ => rfl) rfl rfl rfl ?_
      refine zf_gfr (pc' := 27) (b := 1) dX7_whyNoRow_24 rfl rfl (by decide) rfl rfl ?_
      refine zf_ld (pc' := 28) (v := .inl v1) dX7_whyNoRow_27 rfl (fun _ _ _ => rfl) rfl rfl rfl ?_
      refine zf_aal (b := 47) (n := 8) (pc' := 29) dX7_whyNoRow_28 rfl (by decide) rfl (by decide) rfl h.1 zf_row1 ?_
      have hb7 := h.1
      replace h := h.2
      have hx8 : zf_shelf (47 + 2 * (Int32.toInt v1).toNat) (48 + 2 * (Int32.toInt v1).toNat) := zf_shelves (by omega)
      refine zf_gfi (pc' := 32) dX7_whyNoRow_29 rfl rfl hx8.1 hx8.2.1 rfl ?_
      refine zf_ic (v := (-1)) (pc' := 33) dX7_whyNoRow_32 rfl rfl ?_
      refine zf_icmp_ne (tgt := 40) (pc' := 36) dX7_whyNoRow_33 rfl rfl (fun g => ?_) (fun g => ?_)
      · replace h := h.1 g
        refine zf_ic (v := 2) (pc' := 41) dX7_whyNoRow_40 rfl rfl ?_
        exact zf_ri dX7_whyNoRow_41 rfl h
      · replace h := h.2 g
        refine zf_ic (v := 3) (pc' := 37) dX7_whyNoRow_36 rfl rfl ?_
        refine zf_goto (tgt := 41) dX7_whyNoRow_37 rfl ?_
        exact zf_ri dX7_whyNoRow_41 rfl h
    · replace h := h.2 g
      refine zf_ic (v := 0) (pc' := 22) dX7_whyNoRow_21 rfl rfl ?_
      exact zf_ri dX7_whyNoRow_22 rfl h
  · replace h := h.2 g
    refine zf_ic (v := 1) (pc' := 8) dX7_whyNoRow_7 rfl rfl ?_
    exact zf_ri dX7_whyNoRow_8 rfl h
def zt_69 : zx_MT := (7, yX7_set, cX7_set, 6, (some FieldType.int), 3, 0)
theorem zm_69 : zx_m 69 = zt_69 := rfl
theorem dX7_set_r0 : zdcP cX7_set 0 [(.aload_n 0, 1), (.iload_n 1, 1), (.invokevirtual 90, 3), (.istore 5, 2), (.iload 5, 2), (.ifCond .eq 10, 3), (.aload_n 0, 1), (.iload 5, 2), (.invokevirtual 82, 3), (.ireturn, 1), (.aload_n 0, 1), (.getfield 11, 3), (.iload_n 1, 1), (.aaload, 1), (.iload_n 2, 1), (.invokevirtual 93, 3)] := zdcA_ok (by decide +kernel)
theorem dX7_set_0 : decode cX7_set 0 = .ok (.aload_n 0, 1) := dX7_set_r0.1
theorem dX7_set_1 : decode cX7_set 1 = .ok (.iload_n 1, 1) := dX7_set_r0.2.1
theorem dX7_set_2 : decode cX7_set 2 = .ok (.invokevirtual 90, 3) := dX7_set_r0.2.2.1
theorem dX7_set_5 : decode cX7_set 5 = .ok (.istore 5, 2) := dX7_set_r0.2.2.2.1
theorem dX7_set_7 : decode cX7_set 7 = .ok (.iload 5, 2) := dX7_set_r0.2.2.2.2.1
theorem dX7_set_9 : decode cX7_set 9 = .ok (.ifCond .eq 10, 3) := dX7_set_r0.2.2.2.2.2.1
theorem dX7_set_12 : decode cX7_set 12 = .ok (.aload_n 0, 1) := dX7_set_r0.2.2.2.2.2.2.1
theorem dX7_set_13 : decode cX7_set 13 = .ok (.iload 5, 2) := dX7_set_r0.2.2.2.2.2.2.2.1
theorem dX7_set_15 : decode cX7_set 15 = .ok (.invokevirtual 82, 3) := dX7_set_r0.2.2.2.2.2.2.2.2.1
theorem dX7_set_18 : decode cX7_set 18 = .ok (.ireturn, 1) := dX7_set_r0.2.2.2.2.2.2.2.2.2.1
theorem dX7_set_19 : decode cX7_set 19 = .ok (.aload_n 0, 1) := dX7_set_r0.2.2.2.2.2.2.2.2.2.2.1
theorem dX7_set_20 : decode cX7_set 20 = .ok (.getfield 11, 3) := dX7_set_r0.2.2.2.2.2.2.2.2.2.2.2.1
theorem dX7_set_23 : decode cX7_set 23 = .ok (.iload_n 1, 1) := dX7_set_r0.2.2.2.2.2.2.2.2.2.2.2.2.1
theorem dX7_set_24 : decode cX7_set 24 = .ok (.aaload, 1) := dX7_set_r0.2.2.2.2.2.2.2.2.2.2.2.2.2.1
theorem dX7_set_25 : decode cX7_set 25 = .ok (.iload_n 2, 1) := dX7_set_r0.2.2.2.2.2.2.2.2.2.2.2.2.2.2.1
theorem dX7_set_26 : decode cX7_set 26 = .ok (.invokevirtual 93, 3) := dX7_set_r0.2.2.2.2.2.2.2.2.2.2.2.2.2.2.2.1
theorem dX7_set_r29 : zdcP cX7_set 29 [(.ifCond .ne 9, 3), (.aload_n 0, 1), (.iconst 5, 1), (.invokevirtual 82, 3), (.ireturn, 1), (.aload_n 0, 1), (.getfield 11, 3), (.iload_n 1, 1), (.aaload, 1), (.iload_n 2, 1), (.lload_n 3, 1), (.invokevirtual 96, 3), (.iconst 1, 1), (.ireturn, 1)] := zdcA_ok (by decide +kernel)
theorem dX7_set_29 : decode cX7_set 29 = .ok (.ifCond .ne 9, 3) := dX7_set_r29.1
theorem dX7_set_32 : decode cX7_set 32 = .ok (.aload_n 0, 1) := dX7_set_r29.2.1
theorem dX7_set_33 : decode cX7_set 33 = .ok (.iconst 5, 1) := dX7_set_r29.2.2.1
theorem dX7_set_34 : decode cX7_set 34 = .ok (.invokevirtual 82, 3) := dX7_set_r29.2.2.2.1
theorem dX7_set_37 : decode cX7_set 37 = .ok (.ireturn, 1) := dX7_set_r29.2.2.2.2.1
theorem dX7_set_38 : decode cX7_set 38 = .ok (.aload_n 0, 1) := dX7_set_r29.2.2.2.2.2.1
theorem dX7_set_39 : decode cX7_set 39 = .ok (.getfield 11, 3) := dX7_set_r29.2.2.2.2.2.2.1
theorem dX7_set_42 : decode cX7_set 42 = .ok (.iload_n 1, 1) := dX7_set_r29.2.2.2.2.2.2.2.1
theorem dX7_set_43 : decode cX7_set 43 = .ok (.aaload, 1) := dX7_set_r29.2.2.2.2.2.2.2.2.1
theorem dX7_set_44 : decode cX7_set 44 = .ok (.iload_n 2, 1) := dX7_set_r29.2.2.2.2.2.2.2.2.2.1
theorem dX7_set_45 : decode cX7_set 45 = .ok (.lload_n 3, 1) := dX7_set_r29.2.2.2.2.2.2.2.2.2.2.1
theorem dX7_set_46 : decode cX7_set 46 = .ok (.invokevirtual 96, 3) := dX7_set_r29.2.2.2.2.2.2.2.2.2.2.2.1
theorem dX7_set_49 : decode cX7_set 49 = .ok (.iconst 1, 1) := dX7_set_r29.2.2.2.2.2.2.2.2.2.2.2.2.1
theorem dX7_set_50 : decode cX7_set 50 = .ok (.ireturn, 1) := dX7_set_r29.2.2.2.2.2.2.2.2.2.2.2.2.2.1
def wp_69 (v1 : Int32) (v2 : Int32) (v3 : Int64) (m : zf_Me) (Q : Int32 → zf_Me → Prop) : Prop := wp_111 v1 m (fun x1 m2 => ((x1.toInt = 0 → ((0 ≤ (Int32.toInt v1) ∧ (Int32.toInt v1) < 8) ∧ wp_20 (47 + 2 * (Int32.toInt v1).toNat) (48 + 2 * (Int32.toInt v1).toNat) v2 m2 (fun b5 m6 => ((b5 = true → ((0 ≤ (Int32.toInt v1) ∧ (Int32.toInt v1) < 8) ∧ wp_23 (47 + 2 * (Int32.toInt v1).toNat) (48 + 2 * (Int32.toInt v1).toNat) v2 v3 m6 (fun m10 => Q 1 m10))) ∧ (b5 = false → wp_109 5 m6 (fun x11 m12 => Q x11 m12)))))) ∧ (¬ x1.toInt = 0 → wp_109 x1 m2 (fun x13 m14 => Q x13 m14))))
theorem zr_69 {d : Nat} (hd : 2 ≤ d) {v1 : Int32} {v2 : Int32} {v3 : Int64} {Q : Int32 → zf_Me → Prop} {m : zf_Me} (h : wp_69 v1 v2 v3 m Q) : zf_M d 69 [.inr (.inr (1, 0)), .inl v1, .inl v2, .inr (.inl v3)] m (zf_I Q) := by
  obtain ⟨e, rfl⟩ : ∃ z, d = z + 1 := ⟨d - 1, by omega⟩
  unfold wp_69 at h
  refine zf_M_of (Nat.le_of_ble_eq_true rfl) zm_69 (L := [some (.inr (.inr (1, 0))), some (.inl v1), some (.inl v2), some (.inr (.inl v3)), none, none]) rfl ?_
  refine zf_ld (pc' := 1) (v := .inr (.inr (1, 0))) dX7_set_0 rfl (fun _ _ _ => rfl) rfl rfl rfl ?_
  refine zf_ld (pc' := 2) (v := .inl v1) dX7_set_1 rfl (fun _ _ _ => rfl) rfl rfl rfl ?_
  refine zf_iv (k := 111) (pc' := 5) (r := []) dX7_set_2 rfl rfl rfl rfl (by decide) rfl rfl rfl (zr_111 (by omega) h) (zf_kI (fun x1 m2 h => ?_))
  refine zf_st (pc' := 7) (L2 := [some (.inr (.inr (1, 0))), some (.inl v1), some (.inl v2), some (.inr (.inl v3)), none, some (.inl x1)]) dX7_set_5 rfl (fun _ _ _ => rfl) rfl rfl rfl rfl rfl rfl ?_
  refine zf_ld (pc' := 9) (v := .inl x1) dX7_set_7 rfl (fun _ _ _ => rfl) rfl rfl rfl ?_
  refine zf_if_eq (tgt := 19) (pc' := 12) dX7_set_9 rfl rfl (fun g => ?_) (fun g => ?_)
  · replace h := h.1 g
    refine zf_ld (pc' := 20) (v := .inr (.inr (1, 0))) dX7_set_19 rfl (fun _ _ _ => rfl) rfl rfl rfl ?_
    refine zf_gfr (pc' := 23) (b := 1) dX7_set_20 rfl rfl (by decide) rfl rfl ?_
    refine zf_ld (pc' := 24) (v := .inl v1) dX7_set_23 rfl (fun _ _ _ => rfl) rfl rfl rfl ?_
    refine zf_aal (b := 47) (n := 8) (pc' := 25) dX7_set_24 rfl (by decide) rfl (by decide) rfl h.1 zf_row1 ?_
    have hb3 := h.1
    replace h := h.2
    have hx4 : zf_shelf (47 + 2 * (Int32.toInt v1).toNat) (48 + 2 * (Int32.toInt v1).toNat) := zf_shelves (by omega)
    refine zf_ld (pc' := 26) (v := .inl v2) dX7_set_25 rfl (fun _ _ _ => rfl) rfl rfl rfl ?_
    refine zf_iv (k := 20) (pc' := 29) (r := []) dX7_set_26 rfl rfl rfl rfl hx4.1 hx4.2.1 rfl rfl (zr_20 (by omega) hx4 h) (zf_kB (fun b5 m6 h => ?_))
    refine zf_ib_ne (tgt := 38) (pc' := 32) dX7_set_29 rfl rfl (fun g => ?_) (fun g => ?_)
    · replace h := h.1 g
      refine zf_ld (pc' := 39) (v := .inr (.inr (1, 0))) dX7_set_38 rfl (fun _ _ _ => rfl) rfl rfl rfl ?_
      refine zf_gfr (pc' := 42) (b := 1) dX7_set_39 rfl rfl (by decide) rfl rfl ?_
      refine zf_ld (pc' := 43) (v := .inl v1) dX7_set_42 rfl (fun _ _ _ => rfl) rfl rfl rfl ?_
      refine zf_aal (b := 47) (n := 8) (pc' := 44) dX7_set_43 rfl (by decide) rfl (by decide) rfl h.1 zf_row1 ?_
      have hb7 := h.1
      replace h := h.2
      have hx8 : zf_shelf (47 + 2 * (Int32.toInt v1).toNat) (48 + 2 * (Int32.toInt v1).toNat) := zf_shelves (by omega)
      refine zf_ld (pc' := 45) (v := .inl v2) dX7_set_44 rfl (fun _ _ _ => rfl) rfl rfl rfl ?_
      refine zf_ld (pc' := 46) (v := .inr (.inl v3)) dX7_set_45 rfl (fun _ _ _ => rfl) rfl rfl rfl ?_
      refine zf_iv (k := 23) (pc' := 49) (r := []) dX7_set_46 rfl rfl rfl rfl hx8.1 hx8.2.1 rfl rfl (zr_23 (by omega) hx8 h) (zf_kO (fun m10 h => ?_))
      refine zf_ic (v := 1) (pc' := 50) dX7_set_49 rfl rfl ?_
      exact zf_ri dX7_set_50 rfl h
    · replace h := h.2 g
      refine zf_ld (pc' := 33) (v := .inr (.inr (1, 0))) dX7_set_32 rfl (fun _ _ _ => rfl) rfl rfl rfl ?_
      refine zf_ic (v := 5) (pc' := 34) dX7_set_33 rfl rfl ?_
      refine zf_iv (k := 109) (pc' := 37) (r := []) dX7_set_34 rfl rfl rfl rfl (by decide) rfl rfl rfl (zr_109 (by omega) h) (zf_kI (fun x11 m12 h => ?_))
      exact zf_ri dX7_set_37 rfl h
  · replace h := h.2 g
    refine zf_ld (pc' := 13) (v := .inr (.inr (1, 0))) dX7_set_12 rfl (fun _ _ _ => rfl) rfl rfl rfl ?_
    refine zf_ld (pc' := 15) (v := .inl x1) dX7_set_13 rfl (fun _ _ _ => rfl) rfl rfl rfl ?_
    refine zf_iv (k := 109) (pc' := 18) (r := []) dX7_set_15 rfl rfl rfl rfl (by decide) rfl rfl rfl (zr_109 (by omega) h) (zf_kI (fun x13 m14 h => ?_))
    exact zf_ri dX7_set_18 rfl h
def zt_112 : zx_MT := (7, yX7_whyNoCopy, cX7_whyNoCopy, 5, (some FieldType.int), 2, 0)
theorem zm_112 : zx_m 112 = zt_112 := rfl
theorem dX7_whyNoCopy_r0 : zdcP cX7_whyNoCopy 0 [(.aload_n 0, 1), (.iload_n 1, 1), (.invokevirtual 90, 3), (.istore_n 3, 1), (.aload_n 0, 1), (.iload_n 2, 1), (.invokevirtual 90, 3), (.istore 4, 2), (.iload_n 3, 1), (.iconst 1, 1), (.if_icmp .eq 9, 3), (.iload 4, 2), (.iconst 1, 1), (.if_icmp .ne 5, 3), (.iconst 1, 1), (.ireturn, 1)] := zdcA_ok (by decide +kernel)
theorem dX7_whyNoCopy_0 : decode cX7_whyNoCopy 0 = .ok (.aload_n 0, 1) := dX7_whyNoCopy_r0.1
theorem dX7_whyNoCopy_1 : decode cX7_whyNoCopy 1 = .ok (.iload_n 1, 1) := dX7_whyNoCopy_r0.2.1
theorem dX7_whyNoCopy_2 : decode cX7_whyNoCopy 2 = .ok (.invokevirtual 90, 3) := dX7_whyNoCopy_r0.2.2.1
theorem dX7_whyNoCopy_5 : decode cX7_whyNoCopy 5 = .ok (.istore_n 3, 1) := dX7_whyNoCopy_r0.2.2.2.1
theorem dX7_whyNoCopy_6 : decode cX7_whyNoCopy 6 = .ok (.aload_n 0, 1) := dX7_whyNoCopy_r0.2.2.2.2.1
theorem dX7_whyNoCopy_7 : decode cX7_whyNoCopy 7 = .ok (.iload_n 2, 1) := dX7_whyNoCopy_r0.2.2.2.2.2.1
theorem dX7_whyNoCopy_8 : decode cX7_whyNoCopy 8 = .ok (.invokevirtual 90, 3) := dX7_whyNoCopy_r0.2.2.2.2.2.2.1
theorem dX7_whyNoCopy_11 : decode cX7_whyNoCopy 11 = .ok (.istore 4, 2) := dX7_whyNoCopy_r0.2.2.2.2.2.2.2.1
theorem dX7_whyNoCopy_13 : decode cX7_whyNoCopy 13 = .ok (.iload_n 3, 1) := dX7_whyNoCopy_r0.2.2.2.2.2.2.2.2.1
theorem dX7_whyNoCopy_14 : decode cX7_whyNoCopy 14 = .ok (.iconst 1, 1) := dX7_whyNoCopy_r0.2.2.2.2.2.2.2.2.2.1
theorem dX7_whyNoCopy_15 : decode cX7_whyNoCopy 15 = .ok (.if_icmp .eq 9, 3) := dX7_whyNoCopy_r0.2.2.2.2.2.2.2.2.2.2.1
theorem dX7_whyNoCopy_18 : decode cX7_whyNoCopy 18 = .ok (.iload 4, 2) := dX7_whyNoCopy_r0.2.2.2.2.2.2.2.2.2.2.2.1
theorem dX7_whyNoCopy_20 : decode cX7_whyNoCopy 20 = .ok (.iconst 1, 1) := dX7_whyNoCopy_r0.2.2.2.2.2.2.2.2.2.2.2.2.1
theorem dX7_whyNoCopy_21 : decode cX7_whyNoCopy 21 = .ok (.if_icmp .ne 5, 3) := dX7_whyNoCopy_r0.2.2.2.2.2.2.2.2.2.2.2.2.2.1
theorem dX7_whyNoCopy_24 : decode cX7_whyNoCopy 24 = .ok (.iconst 1, 1) := dX7_whyNoCopy_r0.2.2.2.2.2.2.2.2.2.2.2.2.2.2.1
theorem dX7_whyNoCopy_25 : decode cX7_whyNoCopy 25 = .ok (.ireturn, 1) := dX7_whyNoCopy_r0.2.2.2.2.2.2.2.2.2.2.2.2.2.2.2.1
theorem dX7_whyNoCopy_r26 : zdcP cX7_whyNoCopy 26 [(.iload_n 3, 1), (.iconst 2, 1), (.if_icmp .eq 9, 3), (.iload 4, 2), (.iconst 2, 1), (.if_icmp .ne 5, 3), (.iconst 2, 1), (.ireturn, 1), (.iload_n 3, 1), (.iconst 3, 1), (.if_icmp .eq 9, 3), (.iload 4, 2), (.iconst 3, 1), (.if_icmp .ne 5, 3), (.iconst 3, 1), (.ireturn, 1)] := zdcA_ok (by decide +kernel)
theorem dX7_whyNoCopy_26 : decode cX7_whyNoCopy 26 = .ok (.iload_n 3, 1) := dX7_whyNoCopy_r26.1
theorem dX7_whyNoCopy_27 : decode cX7_whyNoCopy 27 = .ok (.iconst 2, 1) := dX7_whyNoCopy_r26.2.1
theorem dX7_whyNoCopy_28 : decode cX7_whyNoCopy 28 = .ok (.if_icmp .eq 9, 3) := dX7_whyNoCopy_r26.2.2.1
theorem dX7_whyNoCopy_31 : decode cX7_whyNoCopy 31 = .ok (.iload 4, 2) := dX7_whyNoCopy_r26.2.2.2.1
theorem dX7_whyNoCopy_33 : decode cX7_whyNoCopy 33 = .ok (.iconst 2, 1) := dX7_whyNoCopy_r26.2.2.2.2.1
theorem dX7_whyNoCopy_34 : decode cX7_whyNoCopy 34 = .ok (.if_icmp .ne 5, 3) := dX7_whyNoCopy_r26.2.2.2.2.2.1
theorem dX7_whyNoCopy_37 : decode cX7_whyNoCopy 37 = .ok (.iconst 2, 1) := dX7_whyNoCopy_r26.2.2.2.2.2.2.1
theorem dX7_whyNoCopy_38 : decode cX7_whyNoCopy 38 = .ok (.ireturn, 1) := dX7_whyNoCopy_r26.2.2.2.2.2.2.2.1
theorem dX7_whyNoCopy_39 : decode cX7_whyNoCopy 39 = .ok (.iload_n 3, 1) := dX7_whyNoCopy_r26.2.2.2.2.2.2.2.2.1
theorem dX7_whyNoCopy_40 : decode cX7_whyNoCopy 40 = .ok (.iconst 3, 1) := dX7_whyNoCopy_r26.2.2.2.2.2.2.2.2.2.1
theorem dX7_whyNoCopy_41 : decode cX7_whyNoCopy 41 = .ok (.if_icmp .eq 9, 3) := dX7_whyNoCopy_r26.2.2.2.2.2.2.2.2.2.2.1
theorem dX7_whyNoCopy_44 : decode cX7_whyNoCopy 44 = .ok (.iload 4, 2) := dX7_whyNoCopy_r26.2.2.2.2.2.2.2.2.2.2.2.1
theorem dX7_whyNoCopy_46 : decode cX7_whyNoCopy 46 = .ok (.iconst 3, 1) := dX7_whyNoCopy_r26.2.2.2.2.2.2.2.2.2.2.2.2.1
theorem dX7_whyNoCopy_47 : decode cX7_whyNoCopy 47 = .ok (.if_icmp .ne 5, 3) := dX7_whyNoCopy_r26.2.2.2.2.2.2.2.2.2.2.2.2.2.1
theorem dX7_whyNoCopy_50 : decode cX7_whyNoCopy 50 = .ok (.iconst 3, 1) := dX7_whyNoCopy_r26.2.2.2.2.2.2.2.2.2.2.2.2.2.2.1
theorem dX7_whyNoCopy_51 : decode cX7_whyNoCopy 51 = .ok (.ireturn, 1) := dX7_whyNoCopy_r26.2.2.2.2.2.2.2.2.2.2.2.2.2.2.2.1
theorem dX7_whyNoCopy_r52 : zdcP cX7_whyNoCopy 52 [(.aload_n 0, 1), (.getfield 11, 3), (.iload_n 1, 1), (.aaload, 1), (.getfield 121, 3), (.aload_n 0, 1), (.getfield 11, 3), (.iload_n 2, 1), (.aaload, 1), (.getfield 121, 3), (.if_icmp .ne 7, 3), (.iconst 0, 1), (.goto 4, 3), (.iconst 2, 1), (.ireturn, 1)] := zdcA_ok (by decide +kernel)
theorem dX7_whyNoCopy_52 : decode cX7_whyNoCopy 52 = .ok (.aload_n 0, 1) := dX7_whyNoCopy_r52.1
theorem dX7_whyNoCopy_53 : decode cX7_whyNoCopy 53 = .ok (.getfield 11, 3) := dX7_whyNoCopy_r52.2.1
theorem dX7_whyNoCopy_56 : decode cX7_whyNoCopy 56 = .ok (.iload_n 1, 1) := dX7_whyNoCopy_r52.2.2.1
theorem dX7_whyNoCopy_57 : decode cX7_whyNoCopy 57 = .ok (.aaload, 1) := dX7_whyNoCopy_r52.2.2.2.1
theorem dX7_whyNoCopy_58 : decode cX7_whyNoCopy 58 = .ok (.getfield 121, 3) := dX7_whyNoCopy_r52.2.2.2.2.1
theorem dX7_whyNoCopy_61 : decode cX7_whyNoCopy 61 = .ok (.aload_n 0, 1) := dX7_whyNoCopy_r52.2.2.2.2.2.1
theorem dX7_whyNoCopy_62 : decode cX7_whyNoCopy 62 = .ok (.getfield 11, 3) := dX7_whyNoCopy_r52.2.2.2.2.2.2.1
theorem dX7_whyNoCopy_65 : decode cX7_whyNoCopy 65 = .ok (.iload_n 2, 1) := dX7_whyNoCopy_r52.2.2.2.2.2.2.2.1
theorem dX7_whyNoCopy_66 : decode cX7_whyNoCopy 66 = .ok (.aaload, 1) := dX7_whyNoCopy_r52.2.2.2.2.2.2.2.2.1
theorem dX7_whyNoCopy_67 : decode cX7_whyNoCopy 67 = .ok (.getfield 121, 3) := dX7_whyNoCopy_r52.2.2.2.2.2.2.2.2.2.1
theorem dX7_whyNoCopy_70 : decode cX7_whyNoCopy 70 = .ok (.if_icmp .ne 7, 3) := dX7_whyNoCopy_r52.2.2.2.2.2.2.2.2.2.2.1
theorem dX7_whyNoCopy_73 : decode cX7_whyNoCopy 73 = .ok (.iconst 0, 1) := dX7_whyNoCopy_r52.2.2.2.2.2.2.2.2.2.2.2.1
theorem dX7_whyNoCopy_74 : decode cX7_whyNoCopy 74 = .ok (.goto 4, 3) := dX7_whyNoCopy_r52.2.2.2.2.2.2.2.2.2.2.2.2.1
theorem dX7_whyNoCopy_77 : decode cX7_whyNoCopy 77 = .ok (.iconst 2, 1) := dX7_whyNoCopy_r52.2.2.2.2.2.2.2.2.2.2.2.2.2.1
theorem dX7_whyNoCopy_78 : decode cX7_whyNoCopy 78 = .ok (.ireturn, 1) := dX7_whyNoCopy_r52.2.2.2.2.2.2.2.2.2.2.2.2.2.2.1
def wp_112 (v1 : Int32) (v2 : Int32) (m : zf_Me) (Q : Int32 → zf_Me → Prop) : Prop := wp_111 v1 m (fun x1 m2 => wp_111 v2 m2 (fun x3 m4 => ((x1.toInt = 1 → Q 1 m4) ∧ (¬ x1.toInt = 1 → ((¬ x3.toInt = 1 → ((x1.toInt = 2 → Q 2 m4) ∧ (¬ x1.toInt = 2 → ((¬ x3.toInt = 2 → ((x1.toInt = 3 → Q 3 m4) ∧ (¬ x1.toInt = 3 → ((¬ x3.toInt = 3 → ((0 ≤ (Int32.toInt v1) ∧ (Int32.toInt v1) < 8) ∧ ((0 ≤ (Int32.toInt v2) ∧ (Int32.toInt v2) < 8) ∧ ((¬ ((m4.1 (47 + 2 * (Int32.toInt v1).toNat) 1)).toInt = ((m4.1 (47 + 2 * (Int32.toInt v2).toNat) 1)).toInt → Q 2 m4) ∧ (((m4.1 (47 + 2 * (Int32.toInt v1).toNat) 1)).toInt = ((m4.1 (47 + 2 * (Int32.toInt v2).toNat) 1)).toInt → Q 0 m4))))) ∧ (x3.toInt = 3 → Q 3 m4))))) ∧ (x3.toInt = 2 → Q 2 m4))))) ∧ (x3.toInt = 1 → Q 1 m4))))))
theorem zr_112 {d : Nat} (hd : 2 ≤ d) {v1 : Int32} {v2 : Int32} {Q : Int32 → zf_Me → Prop} {m : zf_Me} (h : wp_112 v1 v2 m Q) : zf_M d 112 [.inr (.inr (1, 0)), .inl v1, .inl v2] m (zf_I Q) := by
  obtain ⟨e, rfl⟩ : ∃ z, d = z + 1 := ⟨d - 1, by omega⟩
  unfold wp_112 at h
  refine zf_M_of (Nat.le_of_ble_eq_true rfl) zm_112 (L := [some (.inr (.inr (1, 0))), some (.inl v1), some (.inl v2), none, none]) rfl ?_
  refine zf_ld (pc' := 1) (v := .inr (.inr (1, 0))) dX7_whyNoCopy_0 rfl (fun _ _ _ => rfl) rfl rfl rfl ?_
  refine zf_ld (pc' := 2) (v := .inl v1) dX7_whyNoCopy_1 rfl (fun _ _ _ => rfl) rfl rfl rfl ?_
  refine zf_iv (k := 111) (pc' := 5) (r := []) dX7_whyNoCopy_2 rfl rfl rfl rfl (by decide) rfl rfl rfl (zr_111 (by omega) h) (zf_kI (fun x1 m2 h => ?_))
  refine zf_st (pc' := 6) (L2 := [some (.inr (.inr (1, 0))), some (.inl v1), some (.inl v2), some (.inl x1), none]) dX7_whyNoCopy_5 rfl (fun _ _ _ => rfl) rfl rfl rfl rfl rfl rfl ?_
  refine zf_ld (pc' := 7) (v := .inr (.inr (1, 0))) dX7_whyNoCopy_6 rfl (fun _ _ _ => rfl) rfl rfl rfl ?_
  refine zf_ld (pc' := 8) (v := .inl v2) dX7_whyNoCopy_7 rfl (fun _ _ _ => rfl) rfl rfl rfl ?_
  refine zf_iv (k := 111) (pc' := 11) (r := []) dX7_whyNoCopy_8 rfl rfl rfl rfl (by decide) rfl rfl rfl (zr_111 (by omega) h) (zf_kI (fun x3 m4 h => ?_))
  refine zf_st (pc' := 13) (L2 := [some (.inr (.inr (1, 0))), some (.inl v1), some (.inl v2), some (.inl x1), some (.inl x3)]) dX7_whyNoCopy_11 rfl (fun _ _ _ => rfl) rfl rfl rfl rfl rfl rfl ?_
  refine zf_ld (pc' := 14) (v := .inl x1) dX7_whyNoCopy_13 rfl (fun _ _ _ => rfl) rfl rfl rfl ?_
  refine zf_ic (v := 1) (pc' := 15) dX7_whyNoCopy_14 rfl rfl ?_
  refine zf_icmp_eq (tgt := 24) (pc' := 18) dX7_whyNoCopy_15 rfl rfl (fun g => ?_) (fun g => ?_)
  · replace h := h.1 g
    refine zf_ic (v := 1) (pc' := 25) dX7_whyNoCopy_24 rfl rfl ?_
    exact zf_ri dX7_whyNoCopy_25 rfl h
  · replace h := h.2 g
    refine zf_ld (pc' := 20) (v := .inl x3) dX7_whyNoCopy_18 rfl (fun _ _ _ => rfl) rfl rfl rfl ?_
    refine zf_ic (v := 1) (pc' := 21) dX7_whyNoCopy_20 rfl rfl ?_
    refine zf_icmp_ne (tgt := 26) (pc' := 24) dX7_whyNoCopy_21 rfl rfl (fun g => ?_) (fun g => ?_)
    · replace h := h.1 g
      refine zf_ld (pc' := 27) (v := .inl x1) dX7_whyNoCopy_26 rfl (fun _ _ _ => rfl) rfl rfl rfl ?_
      refine zf_ic (v := 2) (pc' := 28) dX7_whyNoCopy_27 rfl rfl ?_
      refine zf_icmp_eq (tgt := 37) (pc' := 31) dX7_whyNoCopy_28 rfl rfl (fun g => ?_) (fun g => ?_)
      · replace h := h.1 g
        refine zf_ic (v := 2) (pc' := 38) dX7_whyNoCopy_37 rfl rfl ?_
        exact zf_ri dX7_whyNoCopy_38 rfl h
      · replace h := h.2 g
        refine zf_ld (pc' := 33) (v := .inl x3) dX7_whyNoCopy_31 rfl (fun _ _ _ => rfl) rfl rfl rfl ?_
        refine zf_ic (v := 2) (pc' := 34) dX7_whyNoCopy_33 rfl rfl ?_
        refine zf_icmp_ne (tgt := 39) (pc' := 37) dX7_whyNoCopy_34 rfl rfl (fun g => ?_) (fun g => ?_)
        · replace h := h.1 g
          refine zf_ld (pc' := 40) (v := .inl x1) dX7_whyNoCopy_39 rfl (fun _ _ _ => rfl) rfl rfl rfl ?_
          refine zf_ic (v := 3) (pc' := 41) dX7_whyNoCopy_40 rfl rfl ?_
          refine zf_icmp_eq (tgt := 50) (pc' := 44) dX7_whyNoCopy_41 rfl rfl (fun g => ?_) (fun g => ?_)
          · replace h := h.1 g
            refine zf_ic (v := 3) (pc' := 51) dX7_whyNoCopy_50 rfl rfl ?_
            exact zf_ri dX7_whyNoCopy_51 rfl h
          · replace h := h.2 g
            refine zf_ld (pc' := 46) (v := .inl x3) dX7_whyNoCopy_44 rfl (fun _ _ _ => rfl) rfl rfl rfl ?_
            refine zf_ic (v := 3) (pc' := 47) dX7_whyNoCopy_46 rfl rfl ?_
            refine zf_icmp_ne (tgt := 52) (pc' := 50) dX7_whyNoCopy_47 rfl rfl (fun g => ?_) (fun g => ?_)
            · replace h := h.1 g
              refine zf_ld (pc' := 53) (v := .inr (.inr (1, 0))) dX7_whyNoCopy_52 rfl (fun _ _ _ => rfl) rfl rfl rfl ?_
              refine zf_gfr (pc' := 56) (b := 1) dX7_whyNoCopy_53 rfl rfl (by decide) rfl rfl ?_
              refine zf_ld (pc' := 57) (v := .inl v1) dX7_whyNoCopy_56 rfl (fun _ _ _ => rfl) rfl rfl rfl ?_
              refine zf_aal (b := 47) (n := 8) (pc' := 58) dX7_whyNoCopy_57 rfl (by decide) rfl (by decide) rfl h.1 zf_row1 ?_
              have hb5 := h.1
              replace h := h.2
              have hx6 : zf_shelf (47 + 2 * (Int32.toInt v1).toNat) (48 + 2 * (Int32.toInt v1).toNat) := zf_shelves (by omega)
              refine zf_gfi (pc' := 61) dX7_whyNoCopy_58 rfl rfl hx6.1 hx6.2.1 rfl ?_
              refine zf_ld (pc' := 62) (v := .inr (.inr (1, 0))) dX7_whyNoCopy_61 rfl (fun _ _ _ => rfl) rfl rfl rfl ?_
              refine zf_gfr (pc' := 65) (b := 1) dX7_whyNoCopy_62 rfl rfl (by decide) rfl rfl ?_
              refine zf_ld (pc' := 66) (v := .inl v2) dX7_whyNoCopy_65 rfl (fun _ _ _ => rfl) rfl rfl rfl ?_
              refine zf_aal (b := 47) (n := 8) (pc' := 67) dX7_whyNoCopy_66 rfl (by decide) rfl (by decide) rfl h.1 zf_row1 ?_
              have hb7 := h.1
              replace h := h.2
              have hx8 : zf_shelf (47 + 2 * (Int32.toInt v2).toNat) (48 + 2 * (Int32.toInt v2).toNat) := zf_shelves (by omega)
              refine zf_gfi (pc' := 70) dX7_whyNoCopy_67 rfl rfl hx8.1 hx8.2.1 rfl ?_
              refine zf_icmp_ne (tgt := 77) (pc' := 73) dX7_whyNoCopy_70 rfl rfl (fun g => ?_) (fun g => ?_)
              · replace h := h.1 g
                refine zf_ic (v := 2) (pc' := 78) dX7_whyNoCopy_77 rfl rfl ?_
                exact zf_ri dX7_whyNoCopy_78 rfl h
              · replace h := h.2 g
                refine zf_ic (v := 0) (pc' := 74) dX7_whyNoCopy_73 rfl rfl ?_
                refine zf_goto (tgt := 78) dX7_whyNoCopy_74 rfl ?_
                exact zf_ri dX7_whyNoCopy_78 rfl h
            · replace h := h.2 g
              refine zf_ic (v := 3) (pc' := 51) dX7_whyNoCopy_50 rfl rfl ?_
              exact zf_ri dX7_whyNoCopy_51 rfl h
        · replace h := h.2 g
          refine zf_ic (v := 2) (pc' := 38) dX7_whyNoCopy_37 rfl rfl ?_
          exact zf_ri dX7_whyNoCopy_38 rfl h
    · replace h := h.2 g
      refine zf_ic (v := 1) (pc' := 25) dX7_whyNoCopy_24 rfl rfl ?_
      exact zf_ri dX7_whyNoCopy_25 rfl h
