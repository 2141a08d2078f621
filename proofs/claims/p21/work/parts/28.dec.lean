/-! part 28: methods 28..: laid by wip/flat/dec.py -/
def zt_28 : zx_MT := (4, yX4_hasRoomFor, cX4_hasRoomFor, 2, (some FieldType.boolean), 1, 0)
theorem zm_28 : zx_m 28 = zt_28 := rfl
theorem dX4_hasRoomFor_0 : decode cX4_hasRoomFor 0 = .ok (.iload_n 1, 1) := zdc_ok (by decide +kernel)
theorem dX4_hasRoomFor_1 : decode cX4_hasRoomFor 1 = .ok (.tableswitch 92 0 3 #[31, 31, 52, 71], 31) := by decide +kernel
theorem dX4_hasRoomFor_r32 : zdcP cX4_hasRoomFor 32 [(.aload_n 0, 1), (.getfield 17, 3), (.getfield 43, 3), (.getfield 82, 3), (.bipush 24, 2), (.if_icmp .ge 7, 3), (.iconst 1, 1), (.goto 4, 3), (.iconst 0, 1), (.ireturn, 1), (.aload_n 0, 1), (.getfield 17, 3), (.getfield 43, 3), (.getfield 82, 3), (.ifCond .le 7, 3), (.iconst 1, 1)] := zdcA_ok (by decide +kernel)
theorem dX4_hasRoomFor_32 : decode cX4_hasRoomFor 32 = .ok (.aload_n 0, 1) := dX4_hasRoomFor_r32.1
theorem dX4_hasRoomFor_33 : decode cX4_hasRoomFor 33 = .ok (.getfield 17, 3) := dX4_hasRoomFor_r32.2.1
theorem dX4_hasRoomFor_36 : decode cX4_hasRoomFor 36 = .ok (.getfield 43, 3) := dX4_hasRoomFor_r32.2.2.1
theorem dX4_hasRoomFor_39 : decode cX4_hasRoomFor 39 = .ok (.getfield 82, 3) := dX4_hasRoomFor_r32.2.2.2.1
theorem dX4_hasRoomFor_42 : decode cX4_hasRoomFor 42 = .ok (.bipush 24, 2) := dX4_hasRoomFor_r32.2.2.2.2.1
theorem dX4_hasRoomFor_44 : decode cX4_hasRoomFor 44 = .ok (.if_icmp .ge 7, 3) := dX4_hasRoomFor_r32.2.2.2.2.2.1
theorem dX4_hasRoomFor_47 : decode cX4_hasRoomFor 47 = .ok (.iconst 1, 1) := dX4_hasRoomFor_r32.2.2.2.2.2.2.1
theorem dX4_hasRoomFor_48 : decode cX4_hasRoomFor 48 = .ok (.goto 4, 3) := dX4_hasRoomFor_r32.2.2.2.2.2.2.2.1
theorem dX4_hasRoomFor_51 : decode cX4_hasRoomFor 51 = .ok (.iconst 0, 1) := dX4_hasRoomFor_r32.2.2.2.2.2.2.2.2.1
theorem dX4_hasRoomFor_52 : decode cX4_hasRoomFor 52 = .ok (.ireturn, 1) := dX4_hasRoomFor_r32.2.2.2.2.2.2.2.2.2.1
theorem dX4_hasRoomFor_53 : decode cX4_hasRoomFor 53 = .ok (.aload_n 0, 1) := dX4_hasRoomFor_r32.2.2.2.2.2.2.2.2.2.2.1
theorem dX4_hasRoomFor_54 : decode cX4_hasRoomFor 54 = .ok (.getfield 17, 3) := dX4_hasRoomFor_r32.2.2.2.2.2.2.2.2.2.2.2.1
theorem dX4_hasRoomFor_57 : decode cX4_hasRoomFor 57 = .ok (.getfield 43, 3) := dX4_hasRoomFor_r32.2.2.2.2.2.2.2.2.2.2.2.2.1
theorem dX4_hasRoomFor_60 : decode cX4_hasRoomFor 60 = .ok (.getfield 82, 3) := dX4_hasRoomFor_r32.2.2.2.2.2.2.2.2.2.2.2.2.2.1
theorem dX4_hasRoomFor_63 : decode cX4_hasRoomFor 63 = .ok (.ifCond .le 7, 3) := dX4_hasRoomFor_r32.2.2.2.2.2.2.2.2.2.2.2.2.2.2.1
theorem dX4_hasRoomFor_66 : decode cX4_hasRoomFor 66 = .ok (.iconst 1, 1) := dX4_hasRoomFor_r32.2.2.2.2.2.2.2.2.2.2.2.2.2.2.2.1
theorem dX4_hasRoomFor_r67 : zdcP cX4_hasRoomFor 67 [(.goto 4, 3), (.iconst 0, 1), (.ireturn, 1), (.aload_n 0, 1), (.getfield 17, 3), (.getfield 43, 3), (.getfield 100, 3), (.bipush 6, 2), (.if_icmp .ge 7, 3), (.iconst 1, 1), (.goto 4, 3), (.iconst 0, 1), (.ireturn, 1), (.iconst 1, 1), (.ireturn, 1)] := zdcA_ok (by decide +kernel)
theorem dX4_hasRoomFor_67 : decode cX4_hasRoomFor 67 = .ok (.goto 4, 3) := dX4_hasRoomFor_r67.1
theorem dX4_hasRoomFor_70 : decode cX4_hasRoomFor 70 = .ok (.iconst 0, 1) := dX4_hasRoomFor_r67.2.1
theorem dX4_hasRoomFor_71 : decode cX4_hasRoomFor 71 = .ok (.ireturn, 1) := dX4_hasRoomFor_r67.2.2.1
theorem dX4_hasRoomFor_72 : decode cX4_hasRoomFor 72 = .ok (.aload_n 0, 1) := dX4_hasRoomFor_r67.2.2.2.1
theorem dX4_hasRoomFor_73 : decode cX4_hasRoomFor 73 = .ok (.getfield 17, 3) := dX4_hasRoomFor_r67.2.2.2.2.1
theorem dX4_hasRoomFor_76 : decode cX4_hasRoomFor 76 = .ok (.getfield 43, 3) := dX4_hasRoomFor_r67.2.2.2.2.2.1
theorem dX4_hasRoomFor_79 : decode cX4_hasRoomFor 79 = .ok (.getfield 100, 3) := dX4_hasRoomFor_r67.2.2.2.2.2.2.1
theorem dX4_hasRoomFor_82 : decode cX4_hasRoomFor 82 = .ok (.bipush 6, 2) := dX4_hasRoomFor_r67.2.2.2.2.2.2.2.1
theorem dX4_hasRoomFor_84 : decode cX4_hasRoomFor 84 = .ok (.if_icmp .ge 7, 3) := dX4_hasRoomFor_r67.2.2.2.2.2.2.2.2.1
theorem dX4_hasRoomFor_87 : decode cX4_hasRoomFor 87 = .ok (.iconst 1, 1) := dX4_hasRoomFor_r67.2.2.2.2.2.2.2.2.2.1
theorem dX4_hasRoomFor_88 : decode cX4_hasRoomFor 88 = .ok (.goto 4, 3) := dX4_hasRoomFor_r67.2.2.2.2.2.2.2.2.2.2.1
theorem dX4_hasRoomFor_91 : decode cX4_hasRoomFor 91 = .ok (.iconst 0, 1) := dX4_hasRoomFor_r67.2.2.2.2.2.2.2.2.2.2.2.1
theorem dX4_hasRoomFor_92 : decode cX4_hasRoomFor 92 = .ok (.ireturn, 1) := dX4_hasRoomFor_r67.2.2.2.2.2.2.2.2.2.2.2.2.1
theorem dX4_hasRoomFor_93 : decode cX4_hasRoomFor 93 = .ok (.iconst 1, 1) := dX4_hasRoomFor_r67.2.2.2.2.2.2.2.2.2.2.2.2.2.1
theorem dX4_hasRoomFor_94 : decode cX4_hasRoomFor 94 = .ok (.ireturn, 1) := dX4_hasRoomFor_r67.2.2.2.2.2.2.2.2.2.2.2.2.2.2.1
def wp_28 (v1 : Int32) (m : zf_Me) (Q : Bool → zf_Me → Prop) : Prop := (((v1.toInt < 0 ∨ v1.toInt > 3) → Q true m) ∧ (v1.toInt = 0 → ((((m.1 37 4)).toInt ≥ 24 → Q false m) ∧ (((m.1 37 4)).toInt < 24 → Q true m))) ∧ (v1.toInt = 1 → ((((m.1 37 4)).toInt ≥ 24 → Q false m) ∧ (((m.1 37 4)).toInt < 24 → Q true m))) ∧ (v1.toInt = 2 → ((((m.1 37 4)).toInt ≤ 0 → Q false m) ∧ (((m.1 37 4)).toInt > 0 → Q true m))) ∧ (v1.toInt = 3 → ((((m.1 37 5)).toInt ≥ 6 → Q false m) ∧ (((m.1 37 5)).toInt < 6 → Q true m))))
theorem zr_28 {d : Nat} (hd : 0 ≤ d) {v1 : Int32} {Q : Bool → zf_Me → Prop} {m : zf_Me} (h : wp_28 v1 m Q) : zf_M d 28 [.inr (.inr (1, 35)), .inl v1] m (zf_B Q) := by
  unfold wp_28 at h
  refine zf_M_of (Nat.le_of_ble_eq_true rfl) zm_28 (L := [some (.inr (.inr (1, 35))), some (.inl v1)]) rfl ?_
  refine zf_ld (pc' := 1) (v := .inl v1) dX4_hasRoomFor_0 rfl (fun _ _ _ => rfl) rfl rfl rfl ?_
  refine zf_tsc (tgd := 93) dX4_hasRoomFor_1 rfl [32, 32, 53, 72] (by decide) (by decide) (fun g => ?_) (zl_cons (fun g => ?_) (zl_cons (fun g => ?_) (zl_cons (fun g => ?_) (zl_cons (fun g => ?_) (zl_nil)))))
  · replace h := h.1 (by omega)
    refine zf_ic (v := 1) (pc' := 94) dX4_hasRoomFor_93 rfl rfl ?_
    exact zf_rb (b := true) dX4_hasRoomFor_94 rfl h
  · replace h := h.2.1 (by omega)
    refine zf_ld (pc' := 33) (v := .inr (.inr (1, 35))) dX4_hasRoomFor_32 rfl (fun _ _ _ => rfl) rfl rfl rfl ?_
    refine zf_gfr (pc' := 36) (b := 36) dX4_hasRoomFor_33 rfl rfl (by decide) rfl rfl ?_
    refine zf_gfr (pc' := 39) (b := 37) dX4_hasRoomFor_36 rfl rfl zf_walk36.1 zf_walk36.2.1 rfl ?_
    refine zf_gfi (pc' := 42) dX4_hasRoomFor_39 rfl rfl zf_walk36.2.2.1.1 zf_walk36.2.2.1.2.1 rfl ?_
    refine zf_bi (v := 24) (pc' := 44) dX4_hasRoomFor_42 rfl rfl ?_
    refine zf_icmp_ge (tgt := 51) (pc' := 47) dX4_hasRoomFor_44 rfl rfl (fun g => ?_) (fun g => ?_)
    · replace h := h.1 g
      refine zf_ic (v := 0) (pc' := 52) dX4_hasRoomFor_51 rfl rfl ?_
      exact zf_rb (b := false) dX4_hasRoomFor_52 rfl h
    · replace h := h.2 g
      refine zf_ic (v := 1) (pc' := 48) dX4_hasRoomFor_47 rfl rfl ?_
      refine zf_goto (tgt := 52) dX4_hasRoomFor_48 rfl ?_
      exact zf_rb (b := true) dX4_hasRoomFor_52 rfl h
  · replace h := h.2.2.1 (by omega)
    refine zf_ld (pc' := 33) (v := .inr (.inr (1, 35))) dX4_hasRoomFor_32 rfl (fun _ _ _ => rfl) rfl rfl rfl ?_
    refine zf_gfr (pc' := 36) (b := 36) dX4_hasRoomFor_33 rfl rfl (by decide) rfl rfl ?_
    refine zf_gfr (pc' := 39) (b := 37) dX4_hasRoomFor_36 rfl rfl zf_walk36.1 zf_walk36.2.1 rfl ?_
    refine zf_gfi (pc' := 42) dX4_hasRoomFor_39 rfl rfl zf_walk36.2.2.1.1 zf_walk36.2.2.1.2.1 rfl ?_
    refine zf_bi (v := 24) (pc' := 44) dX4_hasRoomFor_42 rfl rfl ?_
    refine zf_icmp_ge (tgt := 51) (pc' := 47) dX4_hasRoomFor_44 rfl rfl (fun g => ?_) (fun g => ?_)
    · replace h := h.1 g
      refine zf_ic (v := 0) (pc' := 52) dX4_hasRoomFor_51 rfl rfl ?_
      exact zf_rb (b := false) dX4_hasRoomFor_52 rfl h
    · replace h := h.2 g
      refine zf_ic (v := 1) (pc' := 48) dX4_hasRoomFor_47 rfl rfl ?_
      refine zf_goto (tgt := 52) dX4_hasRoomFor_48 rfl ?_
      exact zf_rb (b := true) dX4_hasRoomFor_52 rfl h
  · replace h := h.2.2.2.1 (by omega)
    refine zf_ld (pc' := 54) (v := .inr (.inr (1, 35))) dX4_hasRoomFor_53 rfl (fun _ _ _ => rfl) rfl rfl rfl ?_
    refine zf_gfr (pc' := 57) (b := 36) dX4_hasRoomFor_54 rfl rfl (by decide) rfl rfl ?_
    refine zf_gfr (pc' := 60) (b := 37) dX4_hasRoomFor_57 rfl rfl zf_walk36.1 zf_walk36.2.1 rfl ?_
    refine zf_gfi (pc' := 63) dX4_hasRoomFor_60 rfl rfl zf_walk36.2.2.1.1 zf_walk36.2.2.1.2.1 rfl ?_
    refine zf_if_le (tgt := 70) (pc' := 66) dX4_hasRoomFor_63 rfl rfl (fun g => ?_) (fun g => ?_)
    · replace h := h.1 g
      refine zf_ic (v := 0) (pc' := 71) dX4_hasRoomFor_70 rfl rfl ?_
      exact zf_rb (b := false) dX4_hasRoomFor_71 rfl h
    · replace h := h.2 g
      refine zf_ic (v := 1) (pc' := 67) dX4_hasRoomFor_66 rfl rfl ?_
      refine zf_goto (tgt := 71) dX4_hasRoomFor_67 rfl ?_
      exact zf_rb (b := true) dX4_hasRoomFor_71 rfl h
  · replace h := h.2.2.2.2 (by omega)
    refine zf_ld (pc' := 73) (v := .inr (.inr (1, 35))) dX4_hasRoomFor_72 rfl (fun _ _ _ => rfl) rfl rfl rfl ?_
    refine zf_gfr (pc' := 76) (b := 36) dX4_hasRoomFor_73 rfl rfl (by decide) rfl rfl ?_
    refine zf_gfr (pc' := 79) (b := 37) dX4_hasRoomFor_76 rfl rfl zf_walk36.1 zf_walk36.2.1 rfl ?_
    refine zf_gfi (pc' := 82) dX4_hasRoomFor_79 rfl rfl zf_walk36.2.2.1.1 zf_walk36.2.2.1.2.1 rfl ?_
    refine zf_bi (v := 6) (pc' := 84) dX4_hasRoomFor_82 rfl rfl ?_
    refine zf_icmp_ge (tgt := 91) (pc' := 87) dX4_hasRoomFor_84 rfl rfl (fun g => ?_) (fun g => ?_)
    · replace h := h.1 g
      refine zf_ic (v := 0) (pc' := 92) dX4_hasRoomFor_91 rfl rfl ?_
      exact zf_rb (b := false) dX4_hasRoomFor_92 rfl h
    · replace h := h.2 g
      refine zf_ic (v := 1) (pc' := 88) dX4_hasRoomFor_87 rfl rfl ?_
      refine zf_goto (tgt := 92) dX4_hasRoomFor_88 rfl ?_
      exact zf_rb (b := true) dX4_hasRoomFor_92 rfl h
def zt_39 : zx_MT := (4, yX4_readSign, cX4_readSign, 2, (some FieldType.boolean), 1, 0)
theorem zm_39 : zx_m 39 = zt_39 := rfl
theorem dX4_readSign_r0 : zdcP cX4_readSign 0 [(.aload_n 0, 1), (.getfield 31, 3), (.aload_n 0, 1), (.getfield 27, 3), (.if_icmp .ge 16, 3), (.aload_n 0, 1), (.getfield 23, 3), (.aload_n 0, 1), (.getfield 31, 3), (.iaload, 1), (.iload_n 1, 1), (.if_icmp .eq 13, 3), (.aload_n 0, 1), (.aload_n 0, 1), (.getfield 31, 3), (.putfield 40, 3)] := zdcA_ok (by decide +kernel)
theorem dX4_readSign_0 : decode cX4_readSign 0 = .ok (.aload_n 0, 1) := dX4_readSign_r0.1
theorem dX4_readSign_1 : decode cX4_readSign 1 = .ok (.getfield 31, 3) := dX4_readSign_r0.2.1
theorem dX4_readSign_4 : decode cX4_readSign 4 = .ok (.aload_n 0, 1) := dX4_readSign_r0.2.2.1
theorem dX4_readSign_5 : decode cX4_readSign 5 = .ok (.getfield 27, 3) := dX4_readSign_r0.2.2.2.1
theorem dX4_readSign_8 : decode cX4_readSign 8 = .ok (.if_icmp .ge 16, 3) := dX4_readSign_r0.2.2.2.2.1
theorem dX4_readSign_11 : decode cX4_readSign 11 = .ok (.aload_n 0, 1) := dX4_readSign_r0.2.2.2.2.2.1
theorem dX4_readSign_12 : decode cX4_readSign 12 = .ok (.getfield 23, 3) := dX4_readSign_r0.2.2.2.2.2.2.1
theorem dX4_readSign_15 : decode cX4_readSign 15 = .ok (.aload_n 0, 1) := dX4_readSign_r0.2.2.2.2.2.2.2.1
theorem dX4_readSign_16 : decode cX4_readSign 16 = .ok (.getfield 31, 3) := dX4_readSign_r0.2.2.2.2.2.2.2.2.1
theorem dX4_readSign_19 : decode cX4_readSign 19 = .ok (.iaload, 1) := dX4_readSign_r0.2.2.2.2.2.2.2.2.2.1
theorem dX4_readSign_20 : decode cX4_readSign 20 = .ok (.iload_n 1, 1) := dX4_readSign_r0.2.2.2.2.2.2.2.2.2.2.1
theorem dX4_readSign_21 : decode cX4_readSign 21 = .ok (.if_icmp .eq 13, 3) := dX4_readSign_r0.2.2.2.2.2.2.2.2.2.2.2.1
theorem dX4_readSign_24 : decode cX4_readSign 24 = .ok (.aload_n 0, 1) := dX4_readSign_r0.2.2.2.2.2.2.2.2.2.2.2.2.1
theorem dX4_readSign_25 : decode cX4_readSign 25 = .ok (.aload_n 0, 1) := dX4_readSign_r0.2.2.2.2.2.2.2.2.2.2.2.2.2.1
theorem dX4_readSign_26 : decode cX4_readSign 26 = .ok (.getfield 31, 3) := dX4_readSign_r0.2.2.2.2.2.2.2.2.2.2.2.2.2.2.1
theorem dX4_readSign_29 : decode cX4_readSign 29 = .ok (.putfield 40, 3) := dX4_readSign_r0.2.2.2.2.2.2.2.2.2.2.2.2.2.2.2.1
theorem dX4_readSign_r32 : zdcP cX4_readSign 32 [(.iconst 0, 1), (.ireturn, 1), (.aload_n 0, 1), (.dup, 1), (.getfield 31, 3), (.iconst 1, 1), (.iadd, 1), (.putfield 31, 3), (.iconst 1, 1), (.ireturn, 1)] := zdcA_ok (by decide +kernel)
theorem dX4_readSign_32 : decode cX4_readSign 32 = .ok (.iconst 0, 1) := dX4_readSign_r32.1
theorem dX4_readSign_33 : decode cX4_readSign 33 = .ok (.ireturn, 1) := dX4_readSign_r32.2.1
theorem dX4_readSign_34 : decode cX4_readSign 34 = .ok (.aload_n 0, 1) := dX4_readSign_r32.2.2.1
theorem dX4_readSign_35 : decode cX4_readSign 35 = .ok (.dup, 1) := dX4_readSign_r32.2.2.2.1
theorem dX4_readSign_36 : decode cX4_readSign 36 = .ok (.getfield 31, 3) := dX4_readSign_r32.2.2.2.2.1
theorem dX4_readSign_39 : decode cX4_readSign 39 = .ok (.iconst 1, 1) := dX4_readSign_r32.2.2.2.2.2.1
theorem dX4_readSign_40 : decode cX4_readSign 40 = .ok (.iadd, 1) := dX4_readSign_r32.2.2.2.2.2.2.1
theorem dX4_readSign_41 : decode cX4_readSign 41 = .ok (.putfield 31, 3) := dX4_readSign_r32.2.2.2.2.2.2.2.1
theorem dX4_readSign_44 : decode cX4_readSign 44 = .ok (.iconst 1, 1) := dX4_readSign_r32.2.2.2.2.2.2.2.2.1
theorem dX4_readSign_45 : decode cX4_readSign 45 = .ok (.ireturn, 1) := dX4_readSign_r32.2.2.2.2.2.2.2.2.2.1
def wp_39 (v1 : Int32) (m : zf_Me) (Q : Bool → zf_Me → Prop) : Prop := ((((m.1 35 3)).toInt ≥ ((m.1 35 2)).toInt → (∀ m1, m1 = zf_u m 35 6 (m.1 35 3) → Q false m1)) ∧ (((m.1 35 3)).toInt < ((m.1 35 2)).toInt → ((0 ≤ (Int32.toInt (m.1 35 3)) ∧ (Int32.toInt (m.1 35 3)) < (160 : Int)) ∧ ((((m.1 43 (Int32.toInt (m.1 35 3)).toNat)).toInt = v1.toInt → (∀ m3, m3 = zf_u m 35 3 ((m.1 35 3) + 1) → Q true m3)) ∧ (¬ ((m.1 43 (Int32.toInt (m.1 35 3)).toNat)).toInt = v1.toInt → (∀ m5, m5 = zf_u m 35 6 (m.1 35 3) → Q false m5))))))
theorem zr_39 {d : Nat} (hd : 0 ≤ d) {v1 : Int32} {Q : Bool → zf_Me → Prop} {m : zf_Me} (h : wp_39 v1 m Q) : zf_M d 39 [.inr (.inr (1, 35)), .inl v1] m (zf_B Q) := by
  unfold wp_39 at h
  refine zf_M_of (Nat.le_of_ble_eq_true rfl) zm_39 (L := [some (.inr (.inr (1, 35))), some (.inl v1)]) rfl ?_
  refine zf_ld (pc' := 1) (v := .inr (.inr (1, 35))) dX4_readSign_0 rfl (fun _ _ _ => rfl) rfl rfl rfl ?_
  refine zf_gfi (pc' := 4) dX4_readSign_1 rfl rfl (by decide) rfl rfl ?_
  refine zf_ld (pc' := 5) (v := .inr (.inr (1, 35))) dX4_readSign_4 rfl (fun _ _ _ => rfl) rfl rfl rfl ?_
  refine zf_gfi (pc' := 8) dX4_readSign_5 rfl rfl (by decide) rfl rfl ?_
  refine zf_icmp_ge (tgt := 24) (pc' := 11) dX4_readSign_8 rfl rfl (fun g => ?_) (fun g => ?_)
  · replace h := h.1 g
    refine zf_ld (pc' := 25) (v := .inr (.inr (1, 35))) dX4_readSign_24 rfl (fun _ _ _ => rfl) rfl rfl rfl ?_
    refine zf_ld (pc' := 26) (v := .inr (.inr (1, 35))) dX4_readSign_25 rfl (fun _ _ _ => rfl) rfl rfl rfl ?_
    refine zf_gfi (pc' := 29) dX4_readSign_26 rfl rfl (by decide) rfl rfl ?_
    refine zf_pf (pc' := 32) dX4_readSign_29 rfl rfl (by decide) rfl rfl rfl (fun m1 e2 => ?_)
    replace h := h m1 e2
    refine zf_ic (v := 0) (pc' := 33) dX4_readSign_32 rfl rfl ?_
    exact zf_rb (b := false) dX4_readSign_33 rfl h
  · replace h := h.2 g
    refine zf_ld (pc' := 12) (v := .inr (.inr (1, 35))) dX4_readSign_11 rfl (fun _ _ _ => rfl) rfl rfl rfl ?_
    refine zf_gfr (pc' := 15) (b := 43) dX4_readSign_12 rfl rfl (by decide) rfl rfl ?_
    refine zf_ld (pc' := 16) (v := .inr (.inr (1, 35))) dX4_readSign_15 rfl (fun _ _ _ => rfl) rfl rfl rfl ?_
    refine zf_gfi (pc' := 19) dX4_readSign_16 rfl rfl (by decide) rfl rfl ?_
    refine zf_ial (pc' := 20) dX4_readSign_19 rfl (⟨by decide, rfl⟩ : zf_arr 43 160).1 (⟨by decide, rfl⟩ : zf_arr 43 160).2 h.1 rfl ?_
    replace h := h.2
    refine zf_ld (pc' := 21) (v := .inl v1) dX4_readSign_20 rfl (fun _ _ _ => rfl) rfl rfl rfl ?_
    refine zf_icmp_eq (tgt := 34) (pc' := 24) dX4_readSign_21 rfl rfl (fun g => ?_) (fun g => ?_)
    · replace h := h.1 g
      refine zf_ld (pc' := 35) (v := .inr (.inr (1, 35))) dX4_readSign_34 rfl (fun _ _ _ => rfl) rfl rfl rfl ?_
      refine zf_in (pc' := 36) (S' := [.inr (.inr (1, 35)), .inr (.inr (1, 35))]) dX4_readSign_35 rfl (fun _ _ _ => rfl) ?_
      refine zf_gfi (pc' := 39) dX4_readSign_36 rfl rfl (by decide) rfl rfl ?_
      refine zf_ic (v := 1) (pc' := 40) dX4_readSign_39 rfl rfl ?_
      refine zf_in (pc' := 41) (S' := [.inl ((m.1 35 3) + 1), .inr (.inr (1, 35))]) dX4_readSign_40 rfl (fun _ _ _ => rfl) ?_
      refine zf_pf (pc' := 44) dX4_readSign_41 rfl rfl (by decide) rfl rfl rfl (fun m3 e4 => ?_)
      replace h := h m3 e4
      refine zf_ic (v := 1) (pc' := 45) dX4_readSign_44 rfl rfl ?_
      exact zf_rb (b := true) dX4_readSign_45 rfl h
    · replace h := h.2 g
      refine zf_ld (pc' := 25) (v := .inr (.inr (1, 35))) dX4_readSign_24 rfl (fun _ _ _ => rfl) rfl rfl rfl ?_
      refine zf_ld (pc' := 26) (v := .inr (.inr (1, 35))) dX4_readSign_25 rfl (fun _ _ _ => rfl) rfl rfl rfl ?_
      refine zf_gfi (pc' := 29) dX4_readSign_26 rfl rfl (by decide) rfl rfl ?_
      refine zf_pf (pc' := 32) dX4_readSign_29 rfl rfl (by decide) rfl rfl rfl (fun m5 e6 => ?_)
      replace h := h m5 e6
      refine zf_ic (v := 0) (pc' := 33) dX4_readSign_32 rfl rfl ?_
      exact zf_rb (b := false) dX4_readSign_33 rfl h
def zt_41 : zx_MT := (4, yX4_isDigitNext, cX4_isDigitNext, 1, (some FieldType.boolean), 0, 0)
theorem zm_41 : zx_m 41 = zt_41 := rfl
theorem dX4_isDigitNext_r0 : zdcP cX4_isDigitNext 0 [(.aload_n 0, 1), (.getfield 31, 3), (.aload_n 0, 1), (.getfield 27, 3), (.if_icmp .ge 35, 3), (.aload_n 0, 1), (.getfield 23, 3), (.aload_n 0, 1), (.getfield 31, 3), (.iaload, 1), (.bipush 48, 2), (.if_icmp .lt 21, 3), (.aload_n 0, 1), (.getfield 23, 3), (.aload_n 0, 1), (.getfield 31, 3)] := zdcA_ok (by decide +kernel)
theorem dX4_isDigitNext_0 : decode cX4_isDigitNext 0 = .ok (.aload_n 0, 1) := dX4_isDigitNext_r0.1
theorem dX4_isDigitNext_1 : decode cX4_isDigitNext 1 = .ok (.getfield 31, 3) := dX4_isDigitNext_r0.2.1
theorem dX4_isDigitNext_4 : decode cX4_isDigitNext 4 = .ok (.aload_n 0, 1) := dX4_isDigitNext_r0.2.2.1
theorem dX4_isDigitNext_5 : decode cX4_isDigitNext 5 = .ok (.getfield 27, 3) := dX4_isDigitNext_r0.2.2.2.1
theorem dX4_isDigitNext_8 : decode cX4_isDigitNext 8 = .ok (.if_icmp .ge 35, 3) := dX4_isDigitNext_r0.2.2.2.2.1
theorem dX4_isDigitNext_11 : decode cX4_isDigitNext 11 = .ok (.aload_n 0, 1) := dX4_isDigitNext_r0.2.2.2.2.2.1
theorem dX4_isDigitNext_12 : decode cX4_isDigitNext 12 = .ok (.getfield 23, 3) := dX4_isDigitNext_r0.2.2.2.2.2.2.1
theorem dX4_isDigitNext_15 : decode cX4_isDigitNext 15 = .ok (.aload_n 0, 1) := dX4_isDigitNext_r0.2.2.2.2.2.2.2.1
theorem dX4_isDigitNext_16 : decode cX4_isDigitNext 16 = .ok (.getfield 31, 3) := dX4_isDigitNext_r0.2.2.2.2.2.2.2.2.1
theorem dX4_isDigitNext_19 : decode cX4_isDigitNext 19 = .ok (.iaload, 1) := dX4_isDigitNext_r0.2.2.2.2.2.2.2.2.2.1
theorem dX4_isDigitNext_20 : decode cX4_isDigitNext 20 = .ok (.bipush 48, 2) := dX4_isDigitNext_r0.2.2.2.2.2.2.2.2.2.2.1
theorem dX4_isDigitNext_22 : decode cX4_isDigitNext 22 = .ok (.if_icmp .lt 21, 3) := dX4_isDigitNext_r0.2.2.2.2.2.2.2.2.2.2.2.1
theorem dX4_isDigitNext_25 : decode cX4_isDigitNext 25 = .ok (.aload_n 0, 1) := dX4_isDigitNext_r0.2.2.2.2.2.2.2.2.2.2.2.2.1
theorem dX4_isDigitNext_26 : decode cX4_isDigitNext 26 = .ok (.getfield 23, 3) := dX4_isDigitNext_r0.2.2.2.2.2.2.2.2.2.2.2.2.2.1
theorem dX4_isDigitNext_29 : decode cX4_isDigitNext 29 = .ok (.aload_n 0, 1) := dX4_isDigitNext_r0.2.2.2.2.2.2.2.2.2.2.2.2.2.2.1
theorem dX4_isDigitNext_30 : decode cX4_isDigitNext 30 = .ok (.getfield 31, 3) := dX4_isDigitNext_r0.2.2.2.2.2.2.2.2.2.2.2.2.2.2.2.1
theorem dX4_isDigitNext_r33 : zdcP cX4_isDigitNext 33 [(.iaload, 1), (.bipush 57, 2), (.if_icmp .gt 7, 3), (.iconst 1, 1), (.goto 4, 3), (.iconst 0, 1), (.ireturn, 1)] := zdcA_ok (by decide +kernel)
theorem dX4_isDigitNext_33 : decode cX4_isDigitNext 33 = .ok (.iaload, 1) := dX4_isDigitNext_r33.1
theorem dX4_isDigitNext_34 : decode cX4_isDigitNext 34 = .ok (.bipush 57, 2) := dX4_isDigitNext_r33.2.1
theorem dX4_isDigitNext_36 : decode cX4_isDigitNext 36 = .ok (.if_icmp .gt 7, 3) := dX4_isDigitNext_r33.2.2.1
theorem dX4_isDigitNext_39 : decode cX4_isDigitNext 39 = .ok (.iconst 1, 1) := dX4_isDigitNext_r33.2.2.2.1
theorem dX4_isDigitNext_40 : decode cX4_isDigitNext 40 = .ok (.goto 4, 3) := dX4_isDigitNext_r33.2.2.2.2.1
theorem dX4_isDigitNext_43 : decode cX4_isDigitNext 43 = .ok (.iconst 0, 1) := dX4_isDigitNext_r33.2.2.2.2.2.1
theorem dX4_isDigitNext_44 : decode cX4_isDigitNext 44 = .ok (.ireturn, 1) := dX4_isDigitNext_r33.2.2.2.2.2.2.1
def wp_41 (m : zf_Me) (Q : Bool → zf_Me → Prop) : Prop := ((((m.1 35 3)).toInt ≥ ((m.1 35 2)).toInt → Q false m) ∧ (((m.1 35 3)).toInt < ((m.1 35 2)).toInt → ((0 ≤ (Int32.toInt (m.1 35 3)) ∧ (Int32.toInt (m.1 35 3)) < (160 : Int)) ∧ ((((m.1 43 (Int32.toInt (m.1 35 3)).toNat)).toInt < 48 → Q false m) ∧ (((m.1 43 (Int32.toInt (m.1 35 3)).toNat)).toInt ≥ 48 → ((0 ≤ (Int32.toInt (m.1 35 3)) ∧ (Int32.toInt (m.1 35 3)) < (160 : Int)) ∧ ((((m.1 43 (Int32.toInt (m.1 35 3)).toNat)).toInt > 57 → Q false m) ∧ (((m.1 43 (Int32.toInt (m.1 35 3)).toNat)).toInt ≤ 57 → Q true m))))))))
theorem zr_41 {d : Nat} (hd : 0 ≤ d) {Q : Bool → zf_Me → Prop} {m : zf_Me} (h : wp_41 m Q) : zf_M d 41 [.inr (.inr (1, 35))] m (zf_B Q) := by
  unfold wp_41 at h
  refine zf_M_of (Nat.le_of_ble_eq_true rfl) zm_41 (L := [some (.inr (.inr (1, 35)))]) rfl ?_
  refine zf_ld (pc' := 1) (v := .inr (.inr (1, 35))) dX4_isDigitNext_0 rfl (fun _ _ _ => rfl) rfl rfl rfl ?_
  refine zf_gfi (pc' := 4) dX4_isDigitNext_1 rfl rfl (by decide) rfl rfl ?_
  refine zf_ld (pc' := 5) (v := .inr (.inr (1, 35))) dX4_isDigitNext_4 rfl (fun _ _ _ => rfl) rfl rfl rfl ?_
  refine zf_gfi (pc' := 8) dX4_isDigitNext_5 rfl rfl (by decide) rfl rfl ?_
  refine zf_icmp_ge (tgt := 43) (pc' := 11) dX4_isDigitNext_8 rfl rfl (fun g => ?_) (fun g => ?_)
  · replace h := h.1 g
    refine zf_ic (v := 0) (pc' := 44) dX4_isDigitNext_43 rfl rfl ?_
    exact zf_rb (b := false) dX4_isDigitNext_44 rfl h
  · replace h := h.2 g
    refine zf_ld (pc' := 12) (v := .inr (.inr (1, 35))) dX4_isDigitNext_11 rfl (fun _ _ _ => rfl) rfl rfl rfl ?_
    refine zf_gfr (pc' := 15) (b := 43) dX4_isDigitNext_12 rfl rfl (by decide) rfl rfl ?_
    refine zf_ld (pc' := 16) (v := .inr (.inr (1, 35))) dX4_isDigitNext_15 rfl (fun _ _ _ => rfl) rfl rfl rfl ?_
    refine zf_gfi (pc' := 19) dX4_isDigitNext_16 rfl rfl (by decide) rfl rfl ?_
    refine zf_ial (pc' := 20) dX4_isDigitNext_19 rfl (⟨by decide, rfl⟩ : zf_arr 43 160).1 (⟨by decide, rfl⟩ : zf_arr 43 160).2 h.1 rfl ?_
    replace h := h.2
    refine zf_bi (v := 48) (pc' := 22) dX4_isDigitNext_20 rfl rfl ?_
    refine zf_icmp_lt (tgt := 43) (pc' := 25) dX4_isDigitNext_22 rfl rfl (fun g => ?_) (fun g => ?_)
    · replace h := h.1 g
      refine zf_ic (v := 0) (pc' := 44) dX4_isDigitNext_43 rfl rfl ?_
      exact zf_rb (b := false) dX4_isDigitNext_44 rfl h
    · replace h := h.2 g
      refine zf_ld (pc' := 26) (v := .inr (.inr (1, 35))) dX4_isDigitNext_25 rfl (fun _ _ _ => rfl) rfl rfl rfl ?_
      refine zf_gfr (pc' := 29) (b := 43) dX4_isDigitNext_26 rfl rfl (by decide) rfl rfl ?_
      refine zf_ld (pc' := 30) (v := .inr (.inr (1, 35))) dX4_isDigitNext_29 rfl (fun _ _ _ => rfl) rfl rfl rfl ?_
      refine zf_gfi (pc' := 33) dX4_isDigitNext_30 rfl rfl (by decide) rfl rfl ?_
      refine zf_ial (pc' := 34) dX4_isDigitNext_33 rfl (⟨by decide, rfl⟩ : zf_arr 43 160).1 (⟨by decide, rfl⟩ : zf_arr 43 160).2 h.1 rfl ?_
      replace h := h.2
      refine zf_bi (v := 57) (pc' := 36) dX4_isDigitNext_34 rfl rfl ?_
      refine zf_icmp_gt (tgt := 43) (pc' := 39) dX4_isDigitNext_36 rfl rfl (fun g => ?_) (fun g => ?_)
      · replace h := h.1 g
        refine zf_ic (v := 0) (pc' := 44) dX4_isDigitNext_43 rfl rfl ?_
        exact zf_rb (b := false) dX4_isDigitNext_44 rfl h
      · replace h := h.2 g
        refine zf_ic (v := 1) (pc' := 40) dX4_isDigitNext_39 rfl rfl ?_
        refine zf_goto (tgt := 44) dX4_isDigitNext_40 rfl ?_
        exact zf_rb (b := true) dX4_isDigitNext_44 rfl h
def zt_40 : zx_MT := (4, yX4_readNumber, cX4_readNumber, 5, (some FieldType.int), 2, 0)
theorem zm_40 : zx_m 40 = zt_40 := rfl
theorem dX4_readNumber_r0 : zdcP cX4_readNumber 0 [(.aload_n 0, 1), (.bipush 32, 2), (.invokevirtual 63, 3), (.ifCond .ne 5, 3), (.iconst (-1), 1), (.ireturn, 1), (.aload_n 0, 1), (.aload_n 0, 1), (.getfield 31, 3), (.putfield 34, 3), (.iconst 0, 1), (.istore_n 3, 1), (.iconst 0, 1), (.istore 4, 2), (.iload 4, 2), (.iconst 2, 1)] := zdcA_ok (by decide +kernel)
theorem dX4_readNumber_0 : decode cX4_readNumber 0 = .ok (.aload_n 0, 1) := dX4_readNumber_r0.1
theorem dX4_readNumber_1 : decode cX4_readNumber 1 = .ok (.bipush 32, 2) := dX4_readNumber_r0.2.1
theorem dX4_readNumber_3 : decode cX4_readNumber 3 = .ok (.invokevirtual 63, 3) := dX4_readNumber_r0.2.2.1
theorem dX4_readNumber_6 : decode cX4_readNumber 6 = .ok (.ifCond .ne 5, 3) := dX4_readNumber_r0.2.2.2.1
theorem dX4_readNumber_9 : decode cX4_readNumber 9 = .ok (.iconst (-1), 1) := dX4_readNumber_r0.2.2.2.2.1
theorem dX4_readNumber_10 : decode cX4_readNumber 10 = .ok (.ireturn, 1) := dX4_readNumber_r0.2.2.2.2.2.1
theorem dX4_readNumber_11 : decode cX4_readNumber 11 = .ok (.aload_n 0, 1) := dX4_readNumber_r0.2.2.2.2.2.2.1
theorem dX4_readNumber_12 : decode cX4_readNumber 12 = .ok (.aload_n 0, 1) := dX4_readNumber_r0.2.2.2.2.2.2.2.1
theorem dX4_readNumber_13 : decode cX4_readNumber 13 = .ok (.getfield 31, 3) := dX4_readNumber_r0.2.2.2.2.2.2.2.2.1
theorem dX4_readNumber_16 : decode cX4_readNumber 16 = .ok (.putfield 34, 3) := dX4_readNumber_r0.2.2.2.2.2.2.2.2.2.1
theorem dX4_readNumber_19 : decode cX4_readNumber 19 = .ok (.iconst 0, 1) := dX4_readNumber_r0.2.2.2.2.2.2.2.2.2.2.1
theorem dX4_readNumber_20 : decode cX4_readNumber 20 = .ok (.istore_n 3, 1) := dX4_readNumber_r0.2.2.2.2.2.2.2.2.2.2.2.1
theorem dX4_readNumber_21 : decode cX4_readNumber 21 = .ok (.iconst 0, 1) := dX4_readNumber_r0.2.2.2.2.2.2.2.2.2.2.2.2.1
theorem dX4_readNumber_22 : decode cX4_readNumber 22 = .ok (.istore 4, 2) := dX4_readNumber_r0.2.2.2.2.2.2.2.2.2.2.2.2.2.1
theorem dX4_readNumber_24 : decode cX4_readNumber 24 = .ok (.iload 4, 2) := dX4_readNumber_r0.2.2.2.2.2.2.2.2.2.2.2.2.2.2.1
theorem dX4_readNumber_26 : decode cX4_readNumber 26 = .ok (.iconst 2, 1) := dX4_readNumber_r0.2.2.2.2.2.2.2.2.2.2.2.2.2.2.2.1
theorem dX4_readNumber_r27 : zdcP cX4_readNumber 27 [(.if_icmp .ge 44, 3), (.aload_n 0, 1), (.invokevirtual 178, 3), (.ifCond .eq 37, 3), (.iload_n 3, 1), (.bipush 10, 2), (.imul, 1), (.aload_n 0, 1), (.getfield 23, 3), (.aload_n 0, 1), (.getfield 31, 3), (.iaload, 1), (.iadd, 1), (.bipush 48, 2), (.isub, 1), (.istore_n 3, 1)] := zdcA_ok (by decide +kernel)
theorem dX4_readNumber_27 : decode cX4_readNumber 27 = .ok (.if_icmp .ge 44, 3) := dX4_readNumber_r27.1
theorem dX4_readNumber_30 : decode cX4_readNumber 30 = .ok (.aload_n 0, 1) := dX4_readNumber_r27.2.1
theorem dX4_readNumber_31 : decode cX4_readNumber 31 = .ok (.invokevirtual 178, 3) := dX4_readNumber_r27.2.2.1
theorem dX4_readNumber_34 : decode cX4_readNumber 34 = .ok (.ifCond .eq 37, 3) := dX4_readNumber_r27.2.2.2.1
theorem dX4_readNumber_37 : decode cX4_readNumber 37 = .ok (.iload_n 3, 1) := dX4_readNumber_r27.2.2.2.2.1
theorem dX4_readNumber_38 : decode cX4_readNumber 38 = .ok (.bipush 10, 2) := dX4_readNumber_r27.2.2.2.2.2.1
theorem dX4_readNumber_40 : decode cX4_readNumber 40 = .ok (.imul, 1) := dX4_readNumber_r27.2.2.2.2.2.2.1
theorem dX4_readNumber_41 : decode cX4_readNumber 41 = .ok (.aload_n 0, 1) := dX4_readNumber_r27.2.2.2.2.2.2.2.1
theorem dX4_readNumber_42 : decode cX4_readNumber 42 = .ok (.getfield 23, 3) := dX4_readNumber_r27.2.2.2.2.2.2.2.2.1
theorem dX4_readNumber_45 : decode cX4_readNumber 45 = .ok (.aload_n 0, 1) := dX4_readNumber_r27.2.2.2.2.2.2.2.2.2.1
theorem dX4_readNumber_46 : decode cX4_readNumber 46 = .ok (.getfield 31, 3) := dX4_readNumber_r27.2.2.2.2.2.2.2.2.2.2.1
theorem dX4_readNumber_49 : decode cX4_readNumber 49 = .ok (.iaload, 1) := dX4_readNumber_r27.2.2.2.2.2.2.2.2.2.2.2.1
theorem dX4_readNumber_50 : decode cX4_readNumber 50 = .ok (.iadd, 1) := dX4_readNumber_r27.2.2.2.2.2.2.2.2.2.2.2.2.1
theorem dX4_readNumber_51 : decode cX4_readNumber 51 = .ok (.bipush 48, 2) := dX4_readNumber_r27.2.2.2.2.2.2.2.2.2.2.2.2.2.1
theorem dX4_readNumber_53 : decode cX4_readNumber 53 = .ok (.isub, 1) := dX4_readNumber_r27.2.2.2.2.2.2.2.2.2.2.2.2.2.2.1
theorem dX4_readNumber_54 : decode cX4_readNumber 54 = .ok (.istore_n 3, 1) := dX4_readNumber_r27.2.2.2.2.2.2.2.2.2.2.2.2.2.2.2.1
theorem dX4_readNumber_r55 : zdcP cX4_readNumber 55 [(.aload_n 0, 1), (.dup, 1), (.getfield 31, 3), (.iconst 1, 1), (.iadd, 1), (.putfield 31, 3), (.iinc 4 1, 3), (.goto (-44), 3), (.aload_n 0, 1), (.getfield 31, 3), (.aload_n 0, 1), (.getfield 34, 3), (.if_icmp .eq 13, 3), (.iload_n 3, 1), (.iload_n 1, 1), (.if_icmp .lt 8, 3)] := zdcA_ok (by decide +kernel)
theorem dX4_readNumber_55 : decode cX4_readNumber 55 = .ok (.aload_n 0, 1) := dX4_readNumber_r55.1
theorem dX4_readNumber_56 : decode cX4_readNumber 56 = .ok (.dup, 1) := dX4_readNumber_r55.2.1
theorem dX4_readNumber_57 : decode cX4_readNumber 57 = .ok (.getfield 31, 3) := dX4_readNumber_r55.2.2.1
theorem dX4_readNumber_60 : decode cX4_readNumber 60 = .ok (.iconst 1, 1) := dX4_readNumber_r55.2.2.2.1
theorem dX4_readNumber_61 : decode cX4_readNumber 61 = .ok (.iadd, 1) := dX4_readNumber_r55.2.2.2.2.1
theorem dX4_readNumber_62 : decode cX4_readNumber 62 = .ok (.putfield 31, 3) := dX4_readNumber_r55.2.2.2.2.2.1
theorem dX4_readNumber_65 : decode cX4_readNumber 65 = .ok (.iinc 4 1, 3) := dX4_readNumber_r55.2.2.2.2.2.2.1
theorem dX4_readNumber_68 : decode cX4_readNumber 68 = .ok (.goto (-44), 3) := dX4_readNumber_r55.2.2.2.2.2.2.2.1
theorem dX4_readNumber_71 : decode cX4_readNumber 71 = .ok (.aload_n 0, 1) := dX4_readNumber_r55.2.2.2.2.2.2.2.2.1
theorem dX4_readNumber_72 : decode cX4_readNumber 72 = .ok (.getfield 31, 3) := dX4_readNumber_r55.2.2.2.2.2.2.2.2.2.1
theorem dX4_readNumber_75 : decode cX4_readNumber 75 = .ok (.aload_n 0, 1) := dX4_readNumber_r55.2.2.2.2.2.2.2.2.2.2.1
theorem dX4_readNumber_76 : decode cX4_readNumber 76 = .ok (.getfield 34, 3) := dX4_readNumber_r55.2.2.2.2.2.2.2.2.2.2.2.1
theorem dX4_readNumber_79 : decode cX4_readNumber 79 = .ok (.if_icmp .eq 13, 3) := dX4_readNumber_r55.2.2.2.2.2.2.2.2.2.2.2.2.1
theorem dX4_readNumber_82 : decode cX4_readNumber 82 = .ok (.iload_n 3, 1) := dX4_readNumber_r55.2.2.2.2.2.2.2.2.2.2.2.2.2.1
theorem dX4_readNumber_83 : decode cX4_readNumber 83 = .ok (.iload_n 1, 1) := dX4_readNumber_r55.2.2.2.2.2.2.2.2.2.2.2.2.2.2.1
theorem dX4_readNumber_84 : decode cX4_readNumber 84 = .ok (.if_icmp .lt 8, 3) := dX4_readNumber_r55.2.2.2.2.2.2.2.2.2.2.2.2.2.2.2.1
theorem dX4_readNumber_r87 : zdcP cX4_readNumber 87 [(.iload_n 3, 1), (.iload_n 2, 1), (.if_icmp .le 13, 3), (.aload_n 0, 1), (.aload_n 0, 1), (.getfield 34, 3), (.putfield 40, 3), (.iconst (-1), 1), (.ireturn, 1), (.iload_n 3, 1), (.ireturn, 1)] := zdcA_ok (by decide +kernel)
theorem dX4_readNumber_87 : decode cX4_readNumber 87 = .ok (.iload_n 3, 1) := dX4_readNumber_r87.1
theorem dX4_readNumber_88 : decode cX4_readNumber 88 = .ok (.iload_n 2, 1) := dX4_readNumber_r87.2.1
theorem dX4_readNumber_89 : decode cX4_readNumber 89 = .ok (.if_icmp .le 13, 3) := dX4_readNumber_r87.2.2.1
theorem dX4_readNumber_92 : decode cX4_readNumber 92 = .ok (.aload_n 0, 1) := dX4_readNumber_r87.2.2.2.1
theorem dX4_readNumber_93 : decode cX4_readNumber 93 = .ok (.aload_n 0, 1) := dX4_readNumber_r87.2.2.2.2.1
theorem dX4_readNumber_94 : decode cX4_readNumber 94 = .ok (.getfield 34, 3) := dX4_readNumber_r87.2.2.2.2.2.1
theorem dX4_readNumber_97 : decode cX4_readNumber 97 = .ok (.putfield 40, 3) := dX4_readNumber_r87.2.2.2.2.2.2.1
theorem dX4_readNumber_100 : decode cX4_readNumber 100 = .ok (.iconst (-1), 1) := dX4_readNumber_r87.2.2.2.2.2.2.2.1
theorem dX4_readNumber_101 : decode cX4_readNumber 101 = .ok (.ireturn, 1) := dX4_readNumber_r87.2.2.2.2.2.2.2.2.1
theorem dX4_readNumber_102 : decode cX4_readNumber 102 = .ok (.iload_n 3, 1) := dX4_readNumber_r87.2.2.2.2.2.2.2.2.2.1
theorem dX4_readNumber_103 : decode cX4_readNumber 103 = .ok (.ireturn, 1) := dX4_readNumber_r87.2.2.2.2.2.2.2.2.2.2.1
def wq_40_71 (v1 : Int32) (v2 : Int32) (v3 : Int32) (m : zf_Me) (Q : Int32 → zf_Me → Prop) : Prop := ((((m.1 35 3)).toInt = ((m.1 35 4)).toInt → (∀ m5, m5 = zf_u m 35 6 (m.1 35 4) → Q (-1) m5)) ∧ (¬ ((m.1 35 3)).toInt = ((m.1 35 4)).toInt → ((v3.toInt < v1.toInt → (∀ m7, m7 = zf_u m 35 6 (m.1 35 4) → Q (-1) m7)) ∧ (v3.toInt ≥ v1.toInt → ((v3.toInt ≤ v2.toInt → Q v3 m) ∧ (v3.toInt > v2.toInt → (∀ m9, m9 = zf_u m 35 6 (m.1 35 4) → Q (-1) m9)))))))
theorem zq_40_71 {d : Nat} (hd : 1 ≤ d) {v1 : Int32} {v2 : Int32} {Q : Int32 → zf_Me → Prop} {v3 : Int32} {m : zf_Me} (h : wq_40_71 v1 v2 v3 m Q) : zf_W none 0 0 d zt_40 71 [some (.inr (.inr (1, 35))), some (.inl v1), some (.inl v2), some (.inl v3), none] [] m (zf_I Q) := by
  unfold wq_40_71 at h
  refine zf_ld (pc' := 72) (v := .inr (.inr (1, 35))) dX4_readNumber_71 rfl (fun _ _ _ => rfl) rfl rfl rfl ?_
  refine zf_gfi (pc' := 75) dX4_readNumber_72 rfl rfl (by decide) rfl rfl ?_
  refine zf_ld (pc' := 76) (v := .inr (.inr (1, 35))) dX4_readNumber_75 rfl (fun _ _ _ => rfl) rfl rfl rfl ?_
  refine zf_gfi (pc' := 79) dX4_readNumber_76 rfl rfl (by decide) rfl rfl ?_
  refine zf_icmp_eq (tgt := 92) (pc' := 82) dX4_readNumber_79 rfl rfl (fun g => ?_) (fun g => ?_)
  · replace h := h.1 g
    refine zf_ld (pc' := 93) (v := .inr (.inr (1, 35))) dX4_readNumber_92 rfl (fun _ _ _ => rfl) rfl rfl rfl ?_
    refine zf_ld (pc' := 94) (v := .inr (.inr (1, 35))) dX4_readNumber_93 rfl (fun _ _ _ => rfl) rfl rfl rfl ?_
    refine zf_gfi (pc' := 97) dX4_readNumber_94 rfl rfl (by decide) rfl rfl ?_
    refine zf_pf (pc' := 100) dX4_readNumber_97 rfl rfl (by decide) rfl rfl rfl (fun m5 e6 => ?_)
    replace h := h m5 e6
    refine zf_ic (v := (-1)) (pc' := 101) dX4_readNumber_100 rfl rfl ?_
    exact zf_ri dX4_readNumber_101 rfl h
  · replace h := h.2 g
    refine zf_ld (pc' := 83) (v := .inl v3) dX4_readNumber_82 rfl (fun _ _ _ => rfl) rfl rfl rfl ?_
    refine zf_ld (pc' := 84) (v := .inl v1) dX4_readNumber_83 rfl (fun _ _ _ => rfl) rfl rfl rfl ?_
    refine zf_icmp_lt (tgt := 92) (pc' := 87) dX4_readNumber_84 rfl rfl (fun g => ?_) (fun g => ?_)
    · replace h := h.1 g
      refine zf_ld (pc' := 93) (v := .inr (.inr (1, 35))) dX4_readNumber_92 rfl (fun _ _ _ => rfl) rfl rfl rfl ?_
      refine zf_ld (pc' := 94) (v := .inr (.inr (1, 35))) dX4_readNumber_93 rfl (fun _ _ _ => rfl) rfl rfl rfl ?_
      refine zf_gfi (pc' := 97) dX4_readNumber_94 rfl rfl (by decide) rfl rfl ?_
      refine zf_pf (pc' := 100) dX4_readNumber_97 rfl rfl (by decide) rfl rfl rfl (fun m7 e8 => ?_)
      replace h := h m7 e8
      refine zf_ic (v := (-1)) (pc' := 101) dX4_readNumber_100 rfl rfl ?_
      exact zf_ri dX4_readNumber_101 rfl h
    · replace h := h.2 g
      refine zf_ld (pc' := 88) (v := .inl v3) dX4_readNumber_87 rfl (fun _ _ _ => rfl) rfl rfl rfl ?_
      refine zf_ld (pc' := 89) (v := .inl v2) dX4_readNumber_88 rfl (fun _ _ _ => rfl) rfl rfl rfl ?_
      refine zf_icmp_le (tgt := 102) (pc' := 92) dX4_readNumber_89 rfl rfl (fun g => ?_) (fun g => ?_)
      · replace h := h.1 g
        refine zf_ld (pc' := 103) (v := .inl v3) dX4_readNumber_102 rfl (fun _ _ _ => rfl) rfl rfl rfl ?_
        exact zf_ri dX4_readNumber_103 rfl h
      · replace h := h.2 g
        refine zf_ld (pc' := 93) (v := .inr (.inr (1, 35))) dX4_readNumber_92 rfl (fun _ _ _ => rfl) rfl rfl rfl ?_
        refine zf_ld (pc' := 94) (v := .inr (.inr (1, 35))) dX4_readNumber_93 rfl (fun _ _ _ => rfl) rfl rfl rfl ?_
        refine zf_gfi (pc' := 97) dX4_readNumber_94 rfl rfl (by decide) rfl rfl ?_
        refine zf_pf (pc' := 100) dX4_readNumber_97 rfl rfl (by decide) rfl rfl rfl (fun m9 e10 => ?_)
        replace h := h m9 e10
        refine zf_ic (v := (-1)) (pc' := 101) dX4_readNumber_100 rfl rfl ?_
        exact zf_ri dX4_readNumber_101 rfl h
def wq_40_24 (v1 : Int32) (v2 : Int32) (Q : Int32 → zf_Me → Prop) : Nat → Int32 → Int32 → zf_Me → Prop
  | 0, _, _, _ => False
  | n + 1, v3, v4, m => ((v4.toInt ≥ 2 → wq_40_71 v1 v2 v3 m Q) ∧ (v4.toInt < 2 → wp_41 m (fun b11 m12 => ((b11 = false → wq_40_71 v1 v2 v3 m12 Q) ∧ (b11 = true → ((0 ≤ (Int32.toInt (m12.1 35 3)) ∧ (Int32.toInt (m12.1 35 3)) < (160 : Int)) ∧ (∀ m13, m13 = zf_u m12 35 3 ((m12.1 35 3) + 1) → wq_40_24 v1 v2 Q n (((v3 * 10) + (m12.1 43 (Int32.toInt (m12.1 35 3)).toNat)) - 48) (v4 + 1) m13)))))))
theorem zq_40_24 {d : Nat} (hd : 1 ≤ d) {v1 : Int32} {v2 : Int32} {Q : Int32 → zf_Me → Prop} : ∀ (n : Nat) (v3 : Int32) (v4 : Int32) (m : zf_Me), wq_40_24 v1 v2 Q n v3 v4 m → zf_W none 0 0 d zt_40 24 [some (.inr (.inr (1, 35))), some (.inl v1), some (.inl v2), some (.inl v3), some (.inl v4)] [] m (zf_I Q) := by
  obtain ⟨e, rfl⟩ : ∃ z, d = z + 1 := ⟨d - 1, by omega⟩
  intro n
  induction n with
  | zero =>
    intro v3 v4 m h
    exact h.elim
  | succ n ih =>
    intro v3 v4 m h
    unfold wq_40_24 at h
    refine zf_ld (pc' := 26) (v := .inl v4) dX4_readNumber_24 rfl (fun _ _ _ => rfl) rfl rfl rfl ?_
    refine zf_ic (v := 2) (pc' := 27) dX4_readNumber_26 rfl rfl ?_
    refine zf_icmp_ge (tgt := 71) (pc' := 30) dX4_readNumber_27 rfl rfl (fun g => ?_) (fun g => ?_)
    · replace h := h.1 g
      exact zf_lo (zq_40_71 (by omega) h) ⟨rfl, rfl, rfl, rfl, trivial⟩
    · replace h := h.2 g
      refine zf_ld (pc' := 31) (v := .inr (.inr (1, 35))) dX4_readNumber_30 rfl (fun _ _ _ => rfl) rfl rfl rfl ?_
      refine zf_iv (k := 41) (pc' := 34) (r := []) dX4_readNumber_31 rfl rfl rfl rfl (by decide) rfl rfl rfl (zr_41 (by omega) h) (zf_kB (fun b11 m12 h => ?_))
      refine zf_ib_eq (tgt := 71) (pc' := 37) dX4_readNumber_34 rfl rfl (fun g => ?_) (fun g => ?_)
      · replace h := h.1 g
        exact zf_lo (zq_40_71 (by omega) h) ⟨rfl, rfl, rfl, rfl, trivial⟩
      · replace h := h.2 g
        refine zf_ld (pc' := 38) (v := .inl v3) dX4_readNumber_37 rfl (fun _ _ _ => rfl) rfl rfl rfl ?_
        refine zf_bi (v := 10) (pc' := 40) dX4_readNumber_38 rfl rfl ?_
        refine zf_in (pc' := 41) (S' := [.inl (v3 * 10)]) dX4_readNumber_40 rfl (fun _ _ _ => rfl) ?_
        refine zf_ld (pc' := 42) (v := .inr (.inr (1, 35))) dX4_readNumber_41 rfl (fun _ _ _ => rfl) rfl rfl rfl ?_
        refine zf_gfr (pc' := 45) (b := 43) dX4_readNumber_42 rfl rfl (by decide) rfl rfl ?_
        refine zf_ld (pc' := 46) (v := .inr (.inr (1, 35))) dX4_readNumber_45 rfl (fun _ _ _ => rfl) rfl rfl rfl ?_
        refine zf_gfi (pc' := 49) dX4_readNumber_46 rfl rfl (by decide) rfl rfl ?_
        refine zf_ial (pc' := 50) dX4_readNumber_49 rfl (⟨by decide, rfl⟩ : zf_arr 43 160).1 (⟨by decide, rfl⟩ : zf_arr 43 160).2 h.1 rfl ?_
        replace h := h.2
        refine zf_in (pc' := 51) (S' := [.inl ((v3 * 10) + (m12.1 43 (Int32.toInt (m12.1 35 3)).toNat))]) dX4_readNumber_50 rfl (fun _ _ _ => rfl) ?_
        refine zf_bi (v := 48) (pc' := 53) dX4_readNumber_51 rfl rfl ?_
        refine zf_in (pc' := 54) (S' := [.inl (((v3 * 10) + (m12.1 43 (Int32.toInt (m12.1 35 3)).toNat)) - 48)]) dX4_readNumber_53 rfl (fun _ _ _ => rfl) ?_
        refine zf_st (pc' := 55) (L2 := [some (.inr (.inr (1, 35))), some (.inl v1), some (.inl v2), some (.inl (((v3 * 10) + (m12.1 43 (Int32.toInt (m12.1 35 3)).toNat)) - 48)), some (.inl v4)]) dX4_readNumber_54 rfl (fun _ _ _ => rfl) rfl rfl rfl rfl rfl rfl ?_
        refine zf_ld (pc' := 56) (v := .inr (.inr (1, 35))) dX4_readNumber_55 rfl (fun _ _ _ => rfl) rfl rfl rfl ?_
        refine zf_in (pc' := 57) (S' := [.inr (.inr (1, 35)), .inr (.inr (1, 35))]) dX4_readNumber_56 rfl (fun _ _ _ => rfl) ?_
        refine zf_gfi (pc' := 60) dX4_readNumber_57 rfl rfl (by decide) rfl rfl ?_
        refine zf_ic (v := 1) (pc' := 61) dX4_readNumber_60 rfl rfl ?_
        refine zf_in (pc' := 62) (S' := [.inl ((m12.1 35 3) + 1), .inr (.inr (1, 35))]) dX4_readNumber_61 rfl (fun _ _ _ => rfl) ?_
        refine zf_pf (pc' := 65) dX4_readNumber_62 rfl rfl (by decide) rfl rfl rfl (fun m13 e14 => ?_)
        replace h := h m13 e14
        refine zf_ii (y := (v4 + 1)) (L2 := [some (.inr (.inr (1, 35))), some (.inl v1), some (.inl v2), some (.inl (((v3 * 10) + (m12.1 43 (Int32.toInt (m12.1 35 3)).toNat)) - 48)), some (.inl (v4 + 1))]) (pc' := 68) dX4_readNumber_65 rfl rfl rfl rfl rfl ?_
        refine zf_goto (tgt := 24) dX4_readNumber_68 rfl ?_
        exact zf_lo (ih _ _ _ h) ⟨rfl, rfl, rfl, rfl, rfl, trivial⟩
def wp_40 (v1 : Int32) (v2 : Int32) (m : zf_Me) (Q : Int32 → zf_Me → Prop) : Prop := wp_39 32 m (fun b1 m2 => ((b1 = true → (∀ m3, m3 = zf_u m2 35 4 (m2.1 35 3) → (∃ n24, wq_40_24 v1 v2 Q n24 0 0 m3))) ∧ (b1 = false → Q (-1) m2)))
theorem zr_40 {d : Nat} (hd : 1 ≤ d) {v1 : Int32} {v2 : Int32} {Q : Int32 → zf_Me → Prop} {m : zf_Me} (h : wp_40 v1 v2 m Q) : zf_M d 40 [.inr (.inr (1, 35)), .inl v1, .inl v2] m (zf_I Q) := by
  obtain ⟨e, rfl⟩ : ∃ z, d = z + 1 := ⟨d - 1, by omega⟩
  unfold wp_40 at h
  refine zf_M_of (Nat.le_of_ble_eq_true rfl) zm_40 (L := [some (.inr (.inr (1, 35))), some (.inl v1), some (.inl v2), none, none]) rfl ?_
  refine zf_ld (pc' := 1) (v := .inr (.inr (1, 35))) dX4_readNumber_0 rfl (fun _ _ _ => rfl) rfl rfl rfl ?_
  refine zf_bi (v := 32) (pc' := 3) dX4_readNumber_1 rfl rfl ?_
  refine zf_iv (k := 39) (pc' := 6) (r := []) dX4_readNumber_3 rfl rfl rfl rfl (by decide) rfl rfl rfl (zr_39 (by omega) h) (zf_kB (fun b1 m2 h => ?_))
  refine zf_ib_ne (tgt := 11) (pc' := 9) dX4_readNumber_6 rfl rfl (fun g => ?_) (fun g => ?_)
  · replace h := h.1 g
    refine zf_ld (pc' := 12) (v := .inr (.inr (1, 35))) dX4_readNumber_11 rfl (fun _ _ _ => rfl) rfl rfl rfl ?_
    refine zf_ld (pc' := 13) (v := .inr (.inr (1, 35))) dX4_readNumber_12 rfl (fun _ _ _ => rfl) rfl rfl rfl ?_
    refine zf_gfi (pc' := 16) dX4_readNumber_13 rfl rfl (by decide) rfl rfl ?_
    refine zf_pf (pc' := 19) dX4_readNumber_16 rfl rfl (by decide) rfl rfl rfl (fun m3 e4 => ?_)
    replace h := h m3 e4
    refine zf_ic (v := 0) (pc' := 20) dX4_readNumber_19 rfl rfl ?_
    refine zf_st (pc' := 21) (L2 := [some (.inr (.inr (1, 35))), some (.inl v1), some (.inl v2), some (.inl 0), none]) dX4_readNumber_20 rfl (fun _ _ _ => rfl) rfl rfl rfl rfl rfl rfl ?_
    refine zf_ic (v := 0) (pc' := 22) dX4_readNumber_21 rfl rfl ?_
    refine zf_st (pc' := 24) (L2 := [some (.inr (.inr (1, 35))), some (.inl v1), some (.inl v2), some (.inl 0), some (.inl 0)]) dX4_readNumber_22 rfl (fun _ _ _ => rfl) rfl rfl rfl rfl rfl rfl ?_
    obtain ⟨n24, h⟩ := h
    exact zf_lo (zq_40_24 (by omega) n24 _ _ _ h) ⟨rfl, rfl, rfl, rfl, rfl, trivial⟩
  · replace h := h.2 g
    refine zf_ic (v := (-1)) (pc' := 10) dX4_readNumber_9 rfl rfl ?_
    exact zf_ri dX4_readNumber_10 rfl h
def zt_66 : zx_MT := (6, yX6_addFurlong, cX6_addFurlong, 3, (some FieldType.int), 2, 0)
theorem zm_66 : zx_m 66 = zt_66 := rfl
theorem dX6_addFurlong_r0 : zdcP cX6_addFurlong 0 [(.aload_n 0, 1), (.getfield 9, 3), (.aload_n 0, 1), (.getfield 24, 3), (.iload_n 1, 1), (.iastore, 1), (.aload_n 0, 1), (.getfield 15, 3), (.aload_n 0, 1), (.getfield 24, 3), (.iload_n 2, 1), (.ifCond .eq 7, 3), (.iconst 1, 1), (.goto 4, 3), (.iconst 0, 1), (.iastore, 1)] := zdcA_ok (by decide +kernel)
theorem dX6_addFurlong_0 : decode cX6_addFurlong 0 = .ok (.aload_n 0, 1) := dX6_addFurlong_r0.1
theorem dX6_addFurlong_1 : decode cX6_addFurlong 1 = .ok (.getfield 9, 3) := dX6_addFurlong_r0.2.1
theorem dX6_addFurlong_4 : decode cX6_addFurlong 4 = .ok (.aload_n 0, 1) := dX6_addFurlong_r0.2.2.1
theorem dX6_addFurlong_5 : decode cX6_addFurlong 5 = .ok (.getfield 24, 3) := dX6_addFurlong_r0.2.2.2.1
theorem dX6_addFurlong_8 : decode cX6_addFurlong 8 = .ok (.iload_n 1, 1) := dX6_addFurlong_r0.2.2.2.2.1
theorem dX6_addFurlong_9 : decode cX6_addFurlong 9 = .ok (.iastore, 1) := dX6_addFurlong_r0.2.2.2.2.2.1
theorem dX6_addFurlong_10 : decode cX6_addFurlong 10 = .ok (.aload_n 0, 1) := dX6_addFurlong_r0.2.2.2.2.2.2.1
theorem dX6_addFurlong_11 : decode cX6_addFurlong 11 = .ok (.getfield 15, 3) := dX6_addFurlong_r0.2.2.2.2.2.2.2.1
theorem dX6_addFurlong_14 : decode cX6_addFurlong 14 = .ok (.aload_n 0, 1) := dX6_addFurlong_r0.2.2.2.2.2.2.2.2.1
theorem dX6_addFurlong_15 : decode cX6_addFurlong 15 = .ok (.getfield 24, 3) := dX6_addFurlong_r0.2.2.2.2.2.2.2.2.2.1
theorem dX6_addFurlong_18 : decode cX6_addFurlong 18 = .ok (.iload_n 2, 1) := dX6_addFurlong_r0.2.2.2.2.2.2.2.2.2.2.1
theorem dX6_addFurlong_19 : decode cX6_addFurlong 19 = .ok (.ifCond .eq 7, 3) := dX6_addFurlong_r0.2.2.2.2.2.2.2.2.2.2.2.1
theorem dX6_addFurlong_22 : decode cX6_addFurlong 22 = .ok (.iconst 1, 1) := dX6_addFurlong_r0.2.2.2.2.2.2.2.2.2.2.2.2.1
theorem dX6_addFurlong_23 : decode cX6_addFurlong 23 = .ok (.goto 4, 3) := dX6_addFurlong_r0.2.2.2.2.2.2.2.2.2.2.2.2.2.1
theorem dX6_addFurlong_26 : decode cX6_addFurlong 26 = .ok (.iconst 0, 1) := dX6_addFurlong_r0.2.2.2.2.2.2.2.2.2.2.2.2.2.2.1
theorem dX6_addFurlong_27 : decode cX6_addFurlong 27 = .ok (.iastore, 1) := dX6_addFurlong_r0.2.2.2.2.2.2.2.2.2.2.2.2.2.2.2.1
theorem dX6_addFurlong_r28 : zdcP cX6_addFurlong 28 [(.aload_n 0, 1), (.dup, 1), (.getfield 24, 3), (.dup_x1, 1), (.iconst 1, 1), (.iadd, 1), (.putfield 24, 3), (.ireturn, 1)] := zdcA_ok (by decide +kernel)
theorem dX6_addFurlong_28 : decode cX6_addFurlong 28 = .ok (.aload_n 0, 1) := dX6_addFurlong_r28.1
theorem dX6_addFurlong_29 : decode cX6_addFurlong 29 = .ok (.dup, 1) := dX6_addFurlong_r28.2.1
theorem dX6_addFurlong_30 : decode cX6_addFurlong 30 = .ok (.getfield 24, 3) := dX6_addFurlong_r28.2.2.1
theorem dX6_addFurlong_33 : decode cX6_addFurlong 33 = .ok (.dup_x1, 1) := dX6_addFurlong_r28.2.2.2.1
theorem dX6_addFurlong_34 : decode cX6_addFurlong 34 = .ok (.iconst 1, 1) := dX6_addFurlong_r28.2.2.2.2.1
theorem dX6_addFurlong_35 : decode cX6_addFurlong 35 = .ok (.iadd, 1) := dX6_addFurlong_r28.2.2.2.2.2.1
theorem dX6_addFurlong_36 : decode cX6_addFurlong 36 = .ok (.putfield 24, 3) := dX6_addFurlong_r28.2.2.2.2.2.2.1
theorem dX6_addFurlong_39 : decode cX6_addFurlong 39 = .ok (.ireturn, 1) := dX6_addFurlong_r28.2.2.2.2.2.2.2.1
def wq_66_27 (y0 : Nat) (v1 : Int32) (v2 : Int32) (u0 : Int32) (u1 : Int32) (m : zf_Me) (Q : Int32 → zf_Me → Prop) : Prop := ((0 ≤ (Int32.toInt u1) ∧ (Int32.toInt u1) < (24 : Int)) ∧ ∀ m3, m3 = zf_u m (y0 + 2) (Int32.toInt u1).toNat u0 → (∀ m5, m5 = zf_u m3 y0 4 ((m3.1 y0 4) + 1) → Q (m3.1 y0 4) m5))
theorem zq_66_27 {d : Nat} (hd : 0 ≤ d) {y0 : Nat} (hp0 : zf_way y0) {v1 : Int32} {v2 : Int32} {Q : Int32 → zf_Me → Prop} {u0 : Int32} {u1 : Int32} {m : zf_Me} (h : wq_66_27 y0 v1 v2 u0 u1 m Q) : zf_W none 0 0 d zt_66 27 [some (.inr (.inr (1, y0))), none, none] [.inl u0, .inl u1, .inr (.inr (1, (y0 + 2)))] m (zf_I Q) := by
  unfold wq_66_27 at h
  refine zf_ias (pc' := 28) dX6_addFurlong_27 rfl hp0.2.2.2.1.1 hp0.2.2.2.1.2 h.1 rfl (fun m3 e4 => ?_)
  replace h := h.2 m3 e4
  refine zf_ld (pc' := 29) (v := .inr (.inr (1, y0))) dX6_addFurlong_28 rfl (fun _ _ _ => rfl) rfl rfl rfl ?_
  refine zf_in (pc' := 30) (S' := [.inr (.inr (1, y0)), .inr (.inr (1, y0))]) dX6_addFurlong_29 rfl (fun _ _ _ => rfl) ?_
  refine zf_gfi (pc' := 33) dX6_addFurlong_30 rfl rfl hp0.1 hp0.2.1 rfl ?_
  refine zf_in (pc' := 34) (S' := [.inl (m3.1 y0 4), .inr (.inr (1, y0)), .inl (m3.1 y0 4)]) dX6_addFurlong_33 rfl (fun _ _ _ => rfl) ?_
  refine zf_ic (v := 1) (pc' := 35) dX6_addFurlong_34 rfl rfl ?_
  refine zf_in (pc' := 36) (S' := [.inl ((m3.1 y0 4) + 1), .inr (.inr (1, y0)), .inl (m3.1 y0 4)]) dX6_addFurlong_35 rfl (fun _ _ _ => rfl) ?_
  refine zf_pf (pc' := 39) dX6_addFurlong_36 rfl rfl hp0.1 hp0.2.1 rfl rfl (fun m5 e6 => ?_)
  replace h := h m5 e6
  exact zf_ri dX6_addFurlong_39 rfl h
def wp_66 (y0 : Nat) (v1 : Int32) (v2 : Int32) (m : zf_Me) (Q : Int32 → zf_Me → Prop) : Prop := ((0 ≤ (Int32.toInt (m.1 y0 4)) ∧ (Int32.toInt (m.1 y0 4)) < (24 : Int)) ∧ ∀ m1, m1 = zf_u m (y0 + 1) (Int32.toInt (m.1 y0 4)).toNat v1 → ((v2.toInt = 0 → wq_66_27 y0 v1 v2 0 (m1.1 y0 4) m1 Q) ∧ (¬ v2.toInt = 0 → wq_66_27 y0 v1 v2 1 (m1.1 y0 4) m1 Q)))
theorem zr_66 {d : Nat} (hd : 0 ≤ d) {y0 : Nat} (hp0 : zf_way y0) {v1 : Int32} {v2 : Int32} {Q : Int32 → zf_Me → Prop} {m : zf_Me} (h : wp_66 y0 v1 v2 m Q) : zf_M d 66 [.inr (.inr (1, y0)), .inl v1, .inl v2] m (zf_I Q) := by
  unfold wp_66 at h
  refine zf_M_of (Nat.le_of_ble_eq_true rfl) zm_66 (L := [some (.inr (.inr (1, y0))), some (.inl v1), some (.inl v2)]) rfl ?_
  refine zf_ld (pc' := 1) (v := .inr (.inr (1, y0))) dX6_addFurlong_0 rfl (fun _ _ _ => rfl) rfl rfl rfl ?_
  refine zf_gfr (pc' := 4) (b := (y0 + 1)) dX6_addFurlong_1 rfl rfl hp0.1 hp0.2.1 rfl ?_
  refine zf_ld (pc' := 5) (v := .inr (.inr (1, y0))) dX6_addFurlong_4 rfl (fun _ _ _ => rfl) rfl rfl rfl ?_
  refine zf_gfi (pc' := 8) dX6_addFurlong_5 rfl rfl hp0.1 hp0.2.1 rfl ?_
  refine zf_ld (pc' := 9) (v := .inl v1) dX6_addFurlong_8 rfl (fun _ _ _ => rfl) rfl rfl rfl ?_
  refine zf_ias (pc' := 10) dX6_addFurlong_9 rfl hp0.2.2.1.1 hp0.2.2.1.2 h.1 rfl (fun m1 e2 => ?_)
  replace h := h.2 m1 e2
  refine zf_ld (pc' := 11) (v := .inr (.inr (1, y0))) dX6_addFurlong_10 rfl (fun _ _ _ => rfl) rfl rfl rfl ?_
  refine zf_gfr (pc' := 14) (b := (y0 + 2)) dX6_addFurlong_11 rfl rfl hp0.1 hp0.2.1 rfl ?_
  refine zf_ld (pc' := 15) (v := .inr (.inr (1, y0))) dX6_addFurlong_14 rfl (fun _ _ _ => rfl) rfl rfl rfl ?_
  refine zf_gfi (pc' := 18) dX6_addFurlong_15 rfl rfl hp0.1 hp0.2.1 rfl ?_
  refine zf_ld (pc' := 19) (v := .inl v2) dX6_addFurlong_18 rfl (fun _ _ _ => rfl) rfl rfl rfl ?_
  refine zf_if_eq (tgt := 26) (pc' := 22) dX6_addFurlong_19 rfl rfl (fun g => ?_) (fun g => ?_)
  · replace h := h.1 g
    refine zf_ic (v := 0) (pc' := 27) dX6_addFurlong_26 rfl rfl ?_
    exact zf_lo (zq_66_27 (by omega) hp0 h) ⟨rfl, trivial⟩
  · replace h := h.2 g
    refine zf_ic (v := 1) (pc' := 23) dX6_addFurlong_22 rfl rfl ?_
    refine zf_goto (tgt := 27) dX6_addFurlong_23 rfl ?_
    exact zf_lo (zq_66_27 (by omega) hp0 h) ⟨rfl, trivial⟩
def zt_29 : zx_MT := (4, yX4_tellFurlong, cX4_tellFurlong, 3, none, 1, 0)
theorem zm_29 : zx_m 29 = zt_29 := rfl
theorem dX4_tellFurlong_r0 : zdcP cX4_tellFurlong 0 [(.aload_n 0, 1), (.iconst 0, 1), (.iconst 3, 1), (.invokevirtual 103, 3), (.istore_n 2, 1), (.iload_n 2, 1), (.iconst (-1), 1), (.if_icmp .eq 18, 3), (.aload_n 0, 1), (.getfield 17, 3), (.getfield 43, 3), (.iload_n 1, 1), (.iload_n 2, 1), (.imul, 1), (.iconst 0, 1), (.invokevirtual 107, 3)] := zdcA_ok (by decide +kernel)
theorem dX4_tellFurlong_0 : decode cX4_tellFurlong 0 = .ok (.aload_n 0, 1) := dX4_tellFurlong_r0.1
theorem dX4_tellFurlong_1 : decode cX4_tellFurlong 1 = .ok (.iconst 0, 1) := dX4_tellFurlong_r0.2.1
theorem dX4_tellFurlong_2 : decode cX4_tellFurlong 2 = .ok (.iconst 3, 1) := dX4_tellFurlong_r0.2.2.1
theorem dX4_tellFurlong_3 : decode cX4_tellFurlong 3 = .ok (.invokevirtual 103, 3) := dX4_tellFurlong_r0.2.2.2.1
theorem dX4_tellFurlong_6 : decode cX4_tellFurlong 6 = .ok (.istore_n 2, 1) := dX4_tellFurlong_r0.2.2.2.2.1
theorem dX4_tellFurlong_7 : decode cX4_tellFurlong 7 = .ok (.iload_n 2, 1) := dX4_tellFurlong_r0.2.2.2.2.2.1
theorem dX4_tellFurlong_8 : decode cX4_tellFurlong 8 = .ok (.iconst (-1), 1) := dX4_tellFurlong_r0.2.2.2.2.2.2.1
theorem dX4_tellFurlong_9 : decode cX4_tellFurlong 9 = .ok (.if_icmp .eq 18, 3) := dX4_tellFurlong_r0.2.2.2.2.2.2.2.1
theorem dX4_tellFurlong_12 : decode cX4_tellFurlong 12 = .ok (.aload_n 0, 1) := dX4_tellFurlong_r0.2.2.2.2.2.2.2.2.1
theorem dX4_tellFurlong_13 : decode cX4_tellFurlong 13 = .ok (.getfield 17, 3) := dX4_tellFurlong_r0.2.2.2.2.2.2.2.2.2.1
theorem dX4_tellFurlong_16 : decode cX4_tellFurlong 16 = .ok (.getfield 43, 3) := dX4_tellFurlong_r0.2.2.2.2.2.2.2.2.2.2.1
theorem dX4_tellFurlong_19 : decode cX4_tellFurlong 19 = .ok (.iload_n 1, 1) := dX4_tellFurlong_r0.2.2.2.2.2.2.2.2.2.2.2.1
theorem dX4_tellFurlong_20 : decode cX4_tellFurlong 20 = .ok (.iload_n 2, 1) := dX4_tellFurlong_r0.2.2.2.2.2.2.2.2.2.2.2.2.1
theorem dX4_tellFurlong_21 : decode cX4_tellFurlong 21 = .ok (.imul, 1) := dX4_tellFurlong_r0.2.2.2.2.2.2.2.2.2.2.2.2.2.1
theorem dX4_tellFurlong_22 : decode cX4_tellFurlong 22 = .ok (.iconst 0, 1) := dX4_tellFurlong_r0.2.2.2.2.2.2.2.2.2.2.2.2.2.2.1
theorem dX4_tellFurlong_23 : decode cX4_tellFurlong 23 = .ok (.invokevirtual 107, 3) := dX4_tellFurlong_r0.2.2.2.2.2.2.2.2.2.2.2.2.2.2.2.1
theorem dX4_tellFurlong_r26 : zdcP cX4_tellFurlong 26 [(.pop, 1), (.return_, 1)] := zdcA_ok (by decide +kernel)
theorem dX4_tellFurlong_26 : decode cX4_tellFurlong 26 = .ok (.pop, 1) := dX4_tellFurlong_r26.1
theorem dX4_tellFurlong_27 : decode cX4_tellFurlong 27 = .ok (.return_, 1) := dX4_tellFurlong_r26.2.1
def wp_29 (v1 : Int32) (m : zf_Me) (Q : zf_Me → Prop) : Prop := wp_40 0 3 m (fun x1 m2 => ((x1.toInt = (-1) → Q m2) ∧ (¬ x1.toInt = (-1) → wp_66 37 (v1 * x1) 0 m2 (fun x3 m4 => Q m4))))
theorem zr_29 {d : Nat} (hd : 2 ≤ d) {v1 : Int32} {Q : zf_Me → Prop} {m : zf_Me} (h : wp_29 v1 m Q) : zf_M d 29 [.inr (.inr (1, 35)), .inl v1] m (zf_O Q) := by
  obtain ⟨e, rfl⟩ : ∃ z, d = z + 1 := ⟨d - 1, by omega⟩
  unfold wp_29 at h
  refine zf_M_of (Nat.le_of_ble_eq_true rfl) zm_29 (L := [some (.inr (.inr (1, 35))), some (.inl v1), none]) rfl ?_
  refine zf_ld (pc' := 1) (v := .inr (.inr (1, 35))) dX4_tellFurlong_0 rfl (fun _ _ _ => rfl) rfl rfl rfl ?_
  refine zf_ic (v := 0) (pc' := 2) dX4_tellFurlong_1 rfl rfl ?_
  refine zf_ic (v := 3) (pc' := 3) dX4_tellFurlong_2 rfl rfl ?_
  refine zf_iv (k := 40) (pc' := 6) (r := []) dX4_tellFurlong_3 rfl rfl rfl rfl (by decide) rfl rfl rfl (zr_40 (by omega) h) (zf_kI (fun x1 m2 h => ?_))
  refine zf_st (pc' := 7) (L2 := [some (.inr (.inr (1, 35))), some (.inl v1), some (.inl x1)]) dX4_tellFurlong_6 rfl (fun _ _ _ => rfl) rfl rfl rfl rfl rfl rfl ?_
  refine zf_ld (pc' := 8) (v := .inl x1) dX4_tellFurlong_7 rfl (fun _ _ _ => rfl) rfl rfl rfl ?_
  refine zf_ic (v := (-1)) (pc' := 9) dX4_tellFurlong_8 rfl rfl ?_
  refine zf_icmp_eq (tgt := 27) (pc' := 12) dX4_tellFurlong_9 rfl rfl (fun g => ?_) (fun g => ?_)
  · replace h := h.1 g
    exact zf_rv dX4_tellFurlong_27 rfl h
  · replace h := h.2 g
    refine zf_ld (pc' := 13) (v := .inr (.inr (1, 35))) dX4_tellFurlong_12 rfl (fun _ _ _ => rfl) rfl rfl rfl ?_
    refine zf_gfr (pc' := 16) (b := 36) dX4_tellFurlong_13 rfl rfl (by decide) rfl rfl ?_
    refine zf_gfr (pc' := 19) (b := 37) dX4_tellFurlong_16 rfl rfl zf_walk36.1 zf_walk36.2.1 rfl ?_
    refine zf_ld (pc' := 20) (v := .inl v1) dX4_tellFurlong_19 rfl (fun _ _ _ => rfl) rfl rfl rfl ?_
    refine zf_ld (pc' := 21) (v := .inl x1) dX4_tellFurlong_20 rfl (fun _ _ _ => rfl) rfl rfl rfl ?_
    refine zf_in (pc' := 22) (S' := [.inl (v1 * x1), .inr (.inr (1, 37))]) dX4_tellFurlong_21 rfl (fun _ _ _ => rfl) ?_
    refine zf_ic (v := 0) (pc' := 23) dX4_tellFurlong_22 rfl rfl ?_
    refine zf_iv (k := 66) (pc' := 26) (r := []) dX4_tellFurlong_23 rfl rfl rfl rfl zf_walk36.2.2.1.1 zf_walk36.2.2.1.2.1 rfl rfl (zr_66 (by omega) zf_walk36.2.2.1 h) (zf_kI (fun x3 m4 h => ?_))
    refine zf_in (pc' := 27) (S' := []) dX4_tellFurlong_26 rfl (fun _ _ _ => rfl) ?_
    exact zf_rv dX4_tellFurlong_27 rfl h
def zt_44 : zx_MT := (5, yX5_addPerson, cX5_addPerson, 3, (some FieldType.int), 2, 0)
theorem zm_44 : zx_m 44 = zt_44 := rfl
theorem dX5_addPerson_r0 : zdcP cX5_addPerson 0 [(.aload_n 0, 1), (.getfield 49, 3), (.getfield 59, 3), (.aload_n 0, 1), (.getfield 49, 3), (.getfield 64, 3), (.iload_n 1, 1), (.iastore, 1), (.aload_n 0, 1), (.getfield 49, 3), (.getfield 67, 3), (.aload_n 0, 1), (.getfield 49, 3), (.getfield 64, 3), (.iload_n 2, 1), (.iastore, 1)] := zdcA_ok (by decide +kernel)
theorem dX5_addPerson_0 : decode cX5_addPerson 0 = .ok (.aload_n 0, 1) := dX5_addPerson_r0.1
theorem dX5_addPerson_1 : decode cX5_addPerson 1 = .ok (.getfield 49, 3) := dX5_addPerson_r0.2.1
theorem dX5_addPerson_4 : decode cX5_addPerson 4 = .ok (.getfield 59, 3) := dX5_addPerson_r0.2.2.1
theorem dX5_addPerson_7 : decode cX5_addPerson 7 = .ok (.aload_n 0, 1) := dX5_addPerson_r0.2.2.2.1
theorem dX5_addPerson_8 : decode cX5_addPerson 8 = .ok (.getfield 49, 3) := dX5_addPerson_r0.2.2.2.2.1
theorem dX5_addPerson_11 : decode cX5_addPerson 11 = .ok (.getfield 64, 3) := dX5_addPerson_r0.2.2.2.2.2.1
theorem dX5_addPerson_14 : decode cX5_addPerson 14 = .ok (.iload_n 1, 1) := dX5_addPerson_r0.2.2.2.2.2.2.1
theorem dX5_addPerson_15 : decode cX5_addPerson 15 = .ok (.iastore, 1) := dX5_addPerson_r0.2.2.2.2.2.2.2.1
theorem dX5_addPerson_16 : decode cX5_addPerson 16 = .ok (.aload_n 0, 1) := dX5_addPerson_r0.2.2.2.2.2.2.2.2.1
theorem dX5_addPerson_17 : decode cX5_addPerson 17 = .ok (.getfield 49, 3) := dX5_addPerson_r0.2.2.2.2.2.2.2.2.2.1
theorem dX5_addPerson_20 : decode cX5_addPerson 20 = .ok (.getfield 67, 3) := dX5_addPerson_r0.2.2.2.2.2.2.2.2.2.2.1
theorem dX5_addPerson_23 : decode cX5_addPerson 23 = .ok (.aload_n 0, 1) := dX5_addPerson_r0.2.2.2.2.2.2.2.2.2.2.2.1
theorem dX5_addPerson_24 : decode cX5_addPerson 24 = .ok (.getfield 49, 3) := dX5_addPerson_r0.2.2.2.2.2.2.2.2.2.2.2.2.1
theorem dX5_addPerson_27 : decode cX5_addPerson 27 = .ok (.getfield 64, 3) := dX5_addPerson_r0.2.2.2.2.2.2.2.2.2.2.2.2.2.1
theorem dX5_addPerson_30 : decode cX5_addPerson 30 = .ok (.iload_n 2, 1) := dX5_addPerson_r0.2.2.2.2.2.2.2.2.2.2.2.2.2.2.1
theorem dX5_addPerson_31 : decode cX5_addPerson 31 = .ok (.iastore, 1) := dX5_addPerson_r0.2.2.2.2.2.2.2.2.2.2.2.2.2.2.2.1
theorem dX5_addPerson_r32 : zdcP cX5_addPerson 32 [(.aload_n 0, 1), (.getfield 9, 3), (.aload_n 0, 1), (.getfield 49, 3), (.getfield 64, 3), (.iconst 0, 1), (.iastore, 1), (.aload_n 0, 1), (.getfield 49, 3), (.dup, 1), (.getfield 64, 3), (.dup_x1, 1), (.iconst 1, 1), (.iadd, 1), (.putfield 64, 3), (.ireturn, 1)] := zdcA_ok (by decide +kernel)
theorem dX5_addPerson_32 : decode cX5_addPerson 32 = .ok (.aload_n 0, 1) := dX5_addPerson_r32.1
theorem dX5_addPerson_33 : decode cX5_addPerson 33 = .ok (.getfield 9, 3) := dX5_addPerson_r32.2.1
theorem dX5_addPerson_36 : decode cX5_addPerson 36 = .ok (.aload_n 0, 1) := dX5_addPerson_r32.2.2.1
theorem dX5_addPerson_37 : decode cX5_addPerson 37 = .ok (.getfield 49, 3) := dX5_addPerson_r32.2.2.2.1
theorem dX5_addPerson_40 : decode cX5_addPerson 40 = .ok (.getfield 64, 3) := dX5_addPerson_r32.2.2.2.2.1
theorem dX5_addPerson_43 : decode cX5_addPerson 43 = .ok (.iconst 0, 1) := dX5_addPerson_r32.2.2.2.2.2.1
theorem dX5_addPerson_44 : decode cX5_addPerson 44 = .ok (.iastore, 1) := dX5_addPerson_r32.2.2.2.2.2.2.1
theorem dX5_addPerson_45 : decode cX5_addPerson 45 = .ok (.aload_n 0, 1) := dX5_addPerson_r32.2.2.2.2.2.2.2.1
theorem dX5_addPerson_46 : decode cX5_addPerson 46 = .ok (.getfield 49, 3) := dX5_addPerson_r32.2.2.2.2.2.2.2.2.1
theorem dX5_addPerson_49 : decode cX5_addPerson 49 = .ok (.dup, 1) := dX5_addPerson_r32.2.2.2.2.2.2.2.2.2.1
theorem dX5_addPerson_50 : decode cX5_addPerson 50 = .ok (.getfield 64, 3) := dX5_addPerson_r32.2.2.2.2.2.2.2.2.2.2.1
theorem dX5_addPerson_53 : decode cX5_addPerson 53 = .ok (.dup_x1, 1) := dX5_addPerson_r32.2.2.2.2.2.2.2.2.2.2.2.1
theorem dX5_addPerson_54 : decode cX5_addPerson 54 = .ok (.iconst 1, 1) := dX5_addPerson_r32.2.2.2.2.2.2.2.2.2.2.2.2.1
theorem dX5_addPerson_55 : decode cX5_addPerson 55 = .ok (.iadd, 1) := dX5_addPerson_r32.2.2.2.2.2.2.2.2.2.2.2.2.2.1
theorem dX5_addPerson_56 : decode cX5_addPerson 56 = .ok (.putfield 64, 3) := dX5_addPerson_r32.2.2.2.2.2.2.2.2.2.2.2.2.2.2.1
theorem dX5_addPerson_59 : decode cX5_addPerson 59 = .ok (.ireturn, 1) := dX5_addPerson_r32.2.2.2.2.2.2.2.2.2.2.2.2.2.2.2.1
def wp_44 (w0 : Nat) (y0 : Nat) (r0 : Nat) (v1 : Int32) (v2 : Int32) (m : zf_Me) (Q : Int32 → zf_Me → Prop) : Prop := ((0 ≤ (Int32.toInt (m.1 y0 5)) ∧ (Int32.toInt (m.1 y0 5)) < (6 : Int)) ∧ ∀ m1, m1 = zf_u m (y0 + 3) (Int32.toInt (m.1 y0 5)).toNat v1 → ((0 ≤ (Int32.toInt (m1.1 y0 5)) ∧ (Int32.toInt (m1.1 y0 5)) < (6 : Int)) ∧ ∀ m3, m3 = zf_u m1 (y0 + 4) (Int32.toInt (m1.1 y0 5)).toNat v2 → ((0 ≤ (Int32.toInt (m3.1 y0 5)) ∧ (Int32.toInt (m3.1 y0 5)) < (6 : Int)) ∧ ∀ m5, m5 = zf_u m3 r0 (Int32.toInt (m3.1 y0 5)).toNat 0 → (∀ m7, m7 = zf_u m5 y0 5 ((m5.1 y0 5) + 1) → Q (m5.1 y0 5) m7))))
theorem zr_44 {d : Nat} (hd : 0 ≤ d) {w0 : Nat} {y0 : Nat} {r0 : Nat} (hp0 : zf_walk w0 y0 r0) {v1 : Int32} {v2 : Int32} {Q : Int32 → zf_Me → Prop} {m : zf_Me} (h : wp_44 w0 y0 r0 v1 v2 m Q) : zf_M d 44 [.inr (.inr (1, w0)), .inl v1, .inl v2] m (zf_I Q) := by
  unfold wp_44 at h
  refine zf_M_of (Nat.le_of_ble_eq_true rfl) zm_44 (L := [some (.inr (.inr (1, w0))), some (.inl v1), some (.inl v2)]) rfl ?_
  refine zf_ld (pc' := 1) (v := .inr (.inr (1, w0))) dX5_addPerson_0 rfl (fun _ _ _ => rfl) rfl rfl rfl ?_
  refine zf_gfr (pc' := 4) (b := y0) dX5_addPerson_1 rfl rfl hp0.1 hp0.2.1 rfl ?_
  refine zf_gfr (pc' := 7) (b := (y0 + 3)) dX5_addPerson_4 rfl rfl hp0.2.2.1.1 hp0.2.2.1.2.1 rfl ?_
  refine zf_ld (pc' := 8) (v := .inr (.inr (1, w0))) dX5_addPerson_7 rfl (fun _ _ _ => rfl) rfl rfl rfl ?_
  refine zf_gfr (pc' := 11) (b := y0) dX5_addPerson_8 rfl rfl hp0.1 hp0.2.1 rfl ?_
  refine zf_gfi (pc' := 14) dX5_addPerson_11 rfl rfl hp0.2.2.1.1 hp0.2.2.1.2.1 rfl ?_
  refine zf_ld (pc' := 15) (v := .inl v1) dX5_addPerson_14 rfl (fun _ _ _ => rfl) rfl rfl rfl ?_
  refine zf_ias (pc' := 16) dX5_addPerson_15 rfl hp0.2.2.1.2.2.2.2.1.1 hp0.2.2.1.2.2.2.2.1.2 h.1 rfl (fun m1 e2 => ?_)
  replace h := h.2 m1 e2
  refine zf_ld (pc' := 17) (v := .inr (.inr (1, w0))) dX5_addPerson_16 rfl (fun _ _ _ => rfl) rfl rfl rfl ?_
  refine zf_gfr (pc' := 20) (b := y0) dX5_addPerson_17 rfl rfl hp0.1 hp0.2.1 rfl ?_
  refine zf_gfr (pc' := 23) (b := (y0 + 4)) dX5_addPerson_20 rfl rfl hp0.2.2.1.1 hp0.2.2.1.2.1 rfl ?_
  refine zf_ld (pc' := 24) (v := .inr (.inr (1, w0))) dX5_addPerson_23 rfl (fun _ _ _ => rfl) rfl rfl rfl ?_
  refine zf_gfr (pc' := 27) (b := y0) dX5_addPerson_24 rfl rfl hp0.1 hp0.2.1 rfl ?_
  refine zf_gfi (pc' := 30) dX5_addPerson_27 rfl rfl hp0.2.2.1.1 hp0.2.2.1.2.1 rfl ?_
  refine zf_ld (pc' := 31) (v := .inl v2) dX5_addPerson_30 rfl (fun _ _ _ => rfl) rfl rfl rfl ?_
  refine zf_ias (pc' := 32) dX5_addPerson_31 rfl hp0.2.2.1.2.2.2.2.2.1 hp0.2.2.1.2.2.2.2.2.2 h.1 rfl (fun m3 e4 => ?_)
  replace h := h.2 m3 e4
  refine zf_ld (pc' := 33) (v := .inr (.inr (1, w0))) dX5_addPerson_32 rfl (fun _ _ _ => rfl) rfl rfl rfl ?_
  refine zf_gfr (pc' := 36) (b := r0) dX5_addPerson_33 rfl rfl hp0.1 hp0.2.1 rfl ?_
  refine zf_ld (pc' := 37) (v := .inr (.inr (1, w0))) dX5_addPerson_36 rfl (fun _ _ _ => rfl) rfl rfl rfl ?_
  refine zf_gfr (pc' := 40) (b := y0) dX5_addPerson_37 rfl rfl hp0.1 hp0.2.1 rfl ?_
  refine zf_gfi (pc' := 43) dX5_addPerson_40 rfl rfl hp0.2.2.1.1 hp0.2.2.1.2.1 rfl ?_
  refine zf_ic (v := 0) (pc' := 44) dX5_addPerson_43 rfl rfl ?_
  refine zf_ias (pc' := 45) dX5_addPerson_44 rfl hp0.2.2.2.1 hp0.2.2.2.2 h.1 rfl (fun m5 e6 => ?_)
  replace h := h.2 m5 e6
  refine zf_ld (pc' := 46) (v := .inr (.inr (1, w0))) dX5_addPerson_45 rfl (fun _ _ _ => rfl) rfl rfl rfl ?_
  refine zf_gfr (pc' := 49) (b := y0) dX5_addPerson_46 rfl rfl hp0.1 hp0.2.1 rfl ?_
  refine zf_in (pc' := 50) (S' := [.inr (.inr (1, y0)), .inr (.inr (1, y0))]) dX5_addPerson_49 rfl (fun _ _ _ => rfl) ?_
  refine zf_gfi (pc' := 53) dX5_addPerson_50 rfl rfl hp0.2.2.1.1 hp0.2.2.1.2.1 rfl ?_
  refine zf_in (pc' := 54) (S' := [.inl (m5.1 y0 5), .inr (.inr (1, y0)), .inl (m5.1 y0 5)]) dX5_addPerson_53 rfl (fun _ _ _ => rfl) ?_
  refine zf_ic (v := 1) (pc' := 55) dX5_addPerson_54 rfl rfl ?_
  refine zf_in (pc' := 56) (S' := [.inl ((m5.1 y0 5) + 1), .inr (.inr (1, y0)), .inl (m5.1 y0 5)]) dX5_addPerson_55 rfl (fun _ _ _ => rfl) ?_
  refine zf_pf (pc' := 59) dX5_addPerson_56 rfl rfl hp0.2.2.1.1 hp0.2.2.1.2.1 rfl rfl (fun m7 e8 => ?_)
  replace h := h m7 e8
  exact zf_ri dX5_addPerson_59 rfl h
def zt_30 : zx_MT := (4, yX4_tellPerson, cX4_tellPerson, 3, none, 0, 0)
theorem zm_30 : zx_m 30 = zt_30 := rfl
theorem dX4_tellPerson_r0 : zdcP cX4_tellPerson 0 [(.aload_n 0, 1), (.iconst 0, 1), (.bipush 6, 2), (.invokevirtual 103, 3), (.istore_n 1, 1), (.iload_n 1, 1), (.iconst (-1), 1), (.if_icmp .ne 7, 3), (.iconst (-1), 1), (.goto 10, 3), (.aload_n 0, 1), (.iconst 0, 1), (.bipush 9, 2), (.invokevirtual 103, 3), (.istore_n 2, 1), (.iload_n 2, 1)] := zdcA_ok (by decide +kernel)
theorem dX4_tellPerson_0 : decode cX4_tellPerson 0 = .ok (.aload_n 0, 1) := dX4_tellPerson_r0.1
theorem dX4_tellPerson_1 : decode cX4_tellPerson 1 = .ok (.iconst 0, 1) := dX4_tellPerson_r0.2.1
theorem dX4_tellPerson_2 : decode cX4_tellPerson 2 = .ok (.bipush 6, 2) := dX4_tellPerson_r0.2.2.1
theorem dX4_tellPerson_4 : decode cX4_tellPerson 4 = .ok (.invokevirtual 103, 3) := dX4_tellPerson_r0.2.2.2.1
theorem dX4_tellPerson_7 : decode cX4_tellPerson 7 = .ok (.istore_n 1, 1) := dX4_tellPerson_r0.2.2.2.2.1
theorem dX4_tellPerson_8 : decode cX4_tellPerson 8 = .ok (.iload_n 1, 1) := dX4_tellPerson_r0.2.2.2.2.2.1
theorem dX4_tellPerson_9 : decode cX4_tellPerson 9 = .ok (.iconst (-1), 1) := dX4_tellPerson_r0.2.2.2.2.2.2.1
theorem dX4_tellPerson_10 : decode cX4_tellPerson 10 = .ok (.if_icmp .ne 7, 3) := dX4_tellPerson_r0.2.2.2.2.2.2.2.1
theorem dX4_tellPerson_13 : decode cX4_tellPerson 13 = .ok (.iconst (-1), 1) := dX4_tellPerson_r0.2.2.2.2.2.2.2.2.1
theorem dX4_tellPerson_14 : decode cX4_tellPerson 14 = .ok (.goto 10, 3) := dX4_tellPerson_r0.2.2.2.2.2.2.2.2.2.1
theorem dX4_tellPerson_17 : decode cX4_tellPerson 17 = .ok (.aload_n 0, 1) := dX4_tellPerson_r0.2.2.2.2.2.2.2.2.2.2.1
theorem dX4_tellPerson_18 : decode cX4_tellPerson 18 = .ok (.iconst 0, 1) := dX4_tellPerson_r0.2.2.2.2.2.2.2.2.2.2.2.1
theorem dX4_tellPerson_19 : decode cX4_tellPerson 19 = .ok (.bipush 9, 2) := dX4_tellPerson_r0.2.2.2.2.2.2.2.2.2.2.2.2.1
theorem dX4_tellPerson_21 : decode cX4_tellPerson 21 = .ok (.invokevirtual 103, 3) := dX4_tellPerson_r0.2.2.2.2.2.2.2.2.2.2.2.2.2.1
theorem dX4_tellPerson_24 : decode cX4_tellPerson 24 = .ok (.istore_n 2, 1) := dX4_tellPerson_r0.2.2.2.2.2.2.2.2.2.2.2.2.2.2.1
theorem dX4_tellPerson_25 : decode cX4_tellPerson 25 = .ok (.iload_n 2, 1) := dX4_tellPerson_r0.2.2.2.2.2.2.2.2.2.2.2.2.2.2.2.1
theorem dX4_tellPerson_r26 : zdcP cX4_tellPerson 26 [(.iconst (-1), 1), (.if_icmp .eq 13, 3), (.aload_n 0, 1), (.getfield 17, 3), (.iload_n 1, 1), (.iload_n 2, 1), (.invokevirtual 111, 3), (.pop, 1), (.return_, 1)] := zdcA_ok (by decide +kernel)
theorem dX4_tellPerson_26 : decode cX4_tellPerson 26 = .ok (.iconst (-1), 1) := dX4_tellPerson_r26.1
theorem dX4_tellPerson_27 : decode cX4_tellPerson 27 = .ok (.if_icmp .eq 13, 3) := dX4_tellPerson_r26.2.1
theorem dX4_tellPerson_30 : decode cX4_tellPerson 30 = .ok (.aload_n 0, 1) := dX4_tellPerson_r26.2.2.1
theorem dX4_tellPerson_31 : decode cX4_tellPerson 31 = .ok (.getfield 17, 3) := dX4_tellPerson_r26.2.2.2.1
theorem dX4_tellPerson_34 : decode cX4_tellPerson 34 = .ok (.iload_n 1, 1) := dX4_tellPerson_r26.2.2.2.2.1
theorem dX4_tellPerson_35 : decode cX4_tellPerson 35 = .ok (.iload_n 2, 1) := dX4_tellPerson_r26.2.2.2.2.2.1
theorem dX4_tellPerson_36 : decode cX4_tellPerson 36 = .ok (.invokevirtual 111, 3) := dX4_tellPerson_r26.2.2.2.2.2.2.1
theorem dX4_tellPerson_39 : decode cX4_tellPerson 39 = .ok (.pop, 1) := dX4_tellPerson_r26.2.2.2.2.2.2.2.1
theorem dX4_tellPerson_40 : decode cX4_tellPerson 40 = .ok (.return_, 1) := dX4_tellPerson_r26.2.2.2.2.2.2.2.2.1
def wq_30_24 (v1 : Int32) (u0 : Int32) (m : zf_Me) (Q : zf_Me → Prop) : Prop := ((u0.toInt = (-1) → Q m) ∧ (¬ u0.toInt = (-1) → wp_44 36 37 42 v1 u0 m (fun x5 m6 => Q m6)))
theorem zq_30_24 {d : Nat} (hd : 2 ≤ d) {Q : zf_Me → Prop} {v1 : Int32} {u0 : Int32} {m : zf_Me} (h : wq_30_24 v1 u0 m Q) : zf_W none 0 0 d zt_30 24 [some (.inr (.inr (1, 35))), some (.inl v1), none] [.inl u0] m (zf_O Q) := by
  obtain ⟨e, rfl⟩ : ∃ z, d = z + 1 := ⟨d - 1, by omega⟩
  unfold wq_30_24 at h
  refine zf_st (pc' := 25) (L2 := [some (.inr (.inr (1, 35))), some (.inl v1), some (.inl u0)]) dX4_tellPerson_24 rfl (fun _ _ _ => rfl) rfl rfl rfl rfl rfl rfl ?_
  refine zf_ld (pc' := 26) (v := .inl u0) dX4_tellPerson_25 rfl (fun _ _ _ => rfl) rfl rfl rfl ?_
  refine zf_ic (v := (-1)) (pc' := 27) dX4_tellPerson_26 rfl rfl ?_
  refine zf_icmp_eq (tgt := 40) (pc' := 30) dX4_tellPerson_27 rfl rfl (fun g => ?_) (fun g => ?_)
  · replace h := h.1 g
    exact zf_rv dX4_tellPerson_40 rfl h
  · replace h := h.2 g
    refine zf_ld (pc' := 31) (v := .inr (.inr (1, 35))) dX4_tellPerson_30 rfl (fun _ _ _ => rfl) rfl rfl rfl ?_
    refine zf_gfr (pc' := 34) (b := 36) dX4_tellPerson_31 rfl rfl (by decide) rfl rfl ?_
    refine zf_ld (pc' := 35) (v := .inl v1) dX4_tellPerson_34 rfl (fun _ _ _ => rfl) rfl rfl rfl ?_
    refine zf_ld (pc' := 36) (v := .inl u0) dX4_tellPerson_35 rfl (fun _ _ _ => rfl) rfl rfl rfl ?_
    refine zf_iv (k := 44) (pc' := 39) (r := []) dX4_tellPerson_36 rfl rfl rfl rfl zf_walk36.1 zf_walk36.2.1 rfl rfl (zr_44 (by omega) zf_walk36 h) (zf_kI (fun x5 m6 h => ?_))
    refine zf_in (pc' := 40) (S' := []) dX4_tellPerson_39 rfl (fun _ _ _ => rfl) ?_
    exact zf_rv dX4_tellPerson_40 rfl h
def wp_30 (m : zf_Me) (Q : zf_Me → Prop) : Prop := wp_40 0 6 m (fun x1 m2 => ((¬ x1.toInt = (-1) → wp_40 0 9 m2 (fun x3 m4 => wq_30_24 x1 x3 m4 Q)) ∧ (x1.toInt = (-1) → wq_30_24 x1 (-1) m2 Q)))
theorem zr_30 {d : Nat} (hd : 2 ≤ d) {Q : zf_Me → Prop} {m : zf_Me} (h : wp_30 m Q) : zf_M d 30 [.inr (.inr (1, 35))] m (zf_O Q) := by
  obtain ⟨e, rfl⟩ : ∃ z, d = z + 1 := ⟨d - 1, by omega⟩
  unfold wp_30 at h
  refine zf_M_of (Nat.le_of_ble_eq_true rfl) zm_30 (L := [some (.inr (.inr (1, 35))), none, none]) rfl ?_
  refine zf_ld (pc' := 1) (v := .inr (.inr (1, 35))) dX4_tellPerson_0 rfl (fun _ _ _ => rfl) rfl rfl rfl ?_
  refine zf_ic (v := 0) (pc' := 2) dX4_tellPerson_1 rfl rfl ?_
  refine zf_bi (v := 6) (pc' := 4) dX4_tellPerson_2 rfl rfl ?_
  refine zf_iv (k := 40) (pc' := 7) (r := []) dX4_tellPerson_4 rfl rfl rfl rfl (by decide) rfl rfl rfl (zr_40 (by omega) h) (zf_kI (fun x1 m2 h => ?_))
  refine zf_st (pc' := 8) (L2 := [some (.inr (.inr (1, 35))), some (.inl x1), none]) dX4_tellPerson_7 rfl (fun _ _ _ => rfl) rfl rfl rfl rfl rfl rfl ?_
  refine zf_ld (pc' := 9) (v := .inl x1) dX4_tellPerson_8 rfl (fun _ _ _ => rfl) rfl rfl rfl ?_
  refine zf_ic (v := (-1)) (pc' := 10) dX4_tellPerson_9 rfl rfl ?_
  refine zf_icmp_ne (tgt := 17) (pc' := 13) dX4_tellPerson_10 rfl rfl (fun g => ?_) (fun g => ?_)
  · replace h := h.1 g
    refine zf_ld (pc' := 18) (v := .inr (.inr (1, 35))) dX4_tellPerson_17 rfl (fun _ _ _ => rfl) rfl rfl rfl ?_
    refine zf_ic (v := 0) (pc' := 19) dX4_tellPerson_18 rfl rfl ?_
    refine zf_bi (v := 9) (pc' := 21) dX4_tellPerson_19 rfl rfl ?_
    refine zf_iv (k := 40) (pc' := 24) (r := []) dX4_tellPerson_21 rfl rfl rfl rfl (by decide) rfl rfl rfl (zr_40 (by omega) h) (zf_kI (fun x3 m4 h => ?_))
    exact zf_lo (zq_30_24 (by omega) h) ⟨rfl, rfl, trivial⟩
  · replace h := h.2 g
    refine zf_ic (v := (-1)) (pc' := 14) dX4_tellPerson_13 rfl rfl ?_
    refine zf_goto (tgt := 24) dX4_tellPerson_14 rfl ?_
    exact zf_lo (zq_30_24 (by omega) h) ⟨rfl, rfl, trivial⟩
def zt_31 : zx_MT := (4, yX4_tellTired, cX4_tellTired, 3, none, 0, 0)
theorem zm_31 : zx_m 31 = zt_31 := rfl
theorem dX4_tellTired_r0 : zdcP cX4_tellTired 0 [(.aload_n 0, 1), (.iconst 0, 1), (.aload_n 0, 1), (.getfield 17, 3), (.getfield 43, 3), (.getfield 100, 3), (.iconst 1, 1), (.isub, 1), (.invokevirtual 103, 3), (.istore_n 1, 1), (.iload_n 1, 1), (.iconst (-1), 1), (.if_icmp .ne 7, 3), (.iconst (-1), 1), (.goto 10, 3), (.aload_n 0, 1)] := zdcA_ok (by decide +kernel)
theorem dX4_tellTired_0 : decode cX4_tellTired 0 = .ok (.aload_n 0, 1) := dX4_tellTired_r0.1
theorem dX4_tellTired_1 : decode cX4_tellTired 1 = .ok (.iconst 0, 1) := dX4_tellTired_r0.2.1
theorem dX4_tellTired_2 : decode cX4_tellTired 2 = .ok (.aload_n 0, 1) := dX4_tellTired_r0.2.2.1
theorem dX4_tellTired_3 : decode cX4_tellTired 3 = .ok (.getfield 17, 3) := dX4_tellTired_r0.2.2.2.1
theorem dX4_tellTired_6 : decode cX4_tellTired 6 = .ok (.getfield 43, 3) := dX4_tellTired_r0.2.2.2.2.1
theorem dX4_tellTired_9 : decode cX4_tellTired 9 = .ok (.getfield 100, 3) := dX4_tellTired_r0.2.2.2.2.2.1
theorem dX4_tellTired_12 : decode cX4_tellTired 12 = .ok (.iconst 1, 1) := dX4_tellTired_r0.2.2.2.2.2.2.1
theorem dX4_tellTired_13 : decode cX4_tellTired 13 = .ok (.isub, 1) := dX4_tellTired_r0.2.2.2.2.2.2.2.1
theorem dX4_tellTired_14 : decode cX4_tellTired 14 = .ok (.invokevirtual 103, 3) := dX4_tellTired_r0.2.2.2.2.2.2.2.2.1
theorem dX4_tellTired_17 : decode cX4_tellTired 17 = .ok (.istore_n 1, 1) := dX4_tellTired_r0.2.2.2.2.2.2.2.2.2.1
theorem dX4_tellTired_18 : decode cX4_tellTired 18 = .ok (.iload_n 1, 1) := dX4_tellTired_r0.2.2.2.2.2.2.2.2.2.2.1
theorem dX4_tellTired_19 : decode cX4_tellTired 19 = .ok (.iconst (-1), 1) := dX4_tellTired_r0.2.2.2.2.2.2.2.2.2.2.2.1
theorem dX4_tellTired_20 : decode cX4_tellTired 20 = .ok (.if_icmp .ne 7, 3) := dX4_tellTired_r0.2.2.2.2.2.2.2.2.2.2.2.2.1
theorem dX4_tellTired_23 : decode cX4_tellTired 23 = .ok (.iconst (-1), 1) := dX4_tellTired_r0.2.2.2.2.2.2.2.2.2.2.2.2.2.1
theorem dX4_tellTired_24 : decode cX4_tellTired 24 = .ok (.goto 10, 3) := dX4_tellTired_r0.2.2.2.2.2.2.2.2.2.2.2.2.2.2.1
theorem dX4_tellTired_27 : decode cX4_tellTired 27 = .ok (.aload_n 0, 1) := dX4_tellTired_r0.2.2.2.2.2.2.2.2.2.2.2.2.2.2.2.1
theorem dX4_tellTired_r28 : zdcP cX4_tellTired 28 [(.iconst 0, 1), (.bipush 99, 2), (.invokevirtual 103, 3), (.istore_n 2, 1), (.iload_n 2, 1), (.iconst (-1), 1), (.if_icmp .eq 13, 3), (.aload_n 0, 1), (.getfield 17, 3), (.getfield 114, 3), (.iload_n 1, 1), (.iload_n 2, 1), (.iastore, 1), (.return_, 1)] := zdcA_ok (by decide +kernel)
theorem dX4_tellTired_28 : decode cX4_tellTired 28 = .ok (.iconst 0, 1) := dX4_tellTired_r28.1
theorem dX4_tellTired_29 : decode cX4_tellTired 29 = .ok (.bipush 99, 2) := dX4_tellTired_r28.2.1
theorem dX4_tellTired_31 : decode cX4_tellTired 31 = .ok (.invokevirtual 103, 3) := dX4_tellTired_r28.2.2.1
theorem dX4_tellTired_34 : decode cX4_tellTired 34 = .ok (.istore_n 2, 1) := dX4_tellTired_r28.2.2.2.1
theorem dX4_tellTired_35 : decode cX4_tellTired 35 = .ok (.iload_n 2, 1) := dX4_tellTired_r28.2.2.2.2.1
theorem dX4_tellTired_36 : decode cX4_tellTired 36 = .ok (.iconst (-1), 1) := dX4_tellTired_r28.2.2.2.2.2.1
theorem dX4_tellTired_37 : decode cX4_tellTired 37 = .ok (.if_icmp .eq 13, 3) := dX4_tellTired_r28.2.2.2.2.2.2.1
theorem dX4_tellTired_40 : decode cX4_tellTired 40 = .ok (.aload_n 0, 1) := dX4_tellTired_r28.2.2.2.2.2.2.2.1
theorem dX4_tellTired_41 : decode cX4_tellTired 41 = .ok (.getfield 17, 3) := dX4_tellTired_r28.2.2.2.2.2.2.2.2.1
theorem dX4_tellTired_44 : decode cX4_tellTired 44 = .ok (.getfield 114, 3) := dX4_tellTired_r28.2.2.2.2.2.2.2.2.2.1
theorem dX4_tellTired_47 : decode cX4_tellTired 47 = .ok (.iload_n 1, 1) := dX4_tellTired_r28.2.2.2.2.2.2.2.2.2.2.1
theorem dX4_tellTired_48 : decode cX4_tellTired 48 = .ok (.iload_n 2, 1) := dX4_tellTired_r28.2.2.2.2.2.2.2.2.2.2.2.1
theorem dX4_tellTired_49 : decode cX4_tellTired 49 = .ok (.iastore, 1) := dX4_tellTired_r28.2.2.2.2.2.2.2.2.2.2.2.2.1
theorem dX4_tellTired_50 : decode cX4_tellTired 50 = .ok (.return_, 1) := dX4_tellTired_r28.2.2.2.2.2.2.2.2.2.2.2.2.2.1
def wq_31_34 (v1 : Int32) (u0 : Int32) (m : zf_Me) (Q : zf_Me → Prop) : Prop := ((u0.toInt = (-1) → Q m) ∧ (¬ u0.toInt = (-1) → ((0 ≤ (Int32.toInt v1) ∧ (Int32.toInt v1) < (6 : Int)) ∧ ∀ m5, m5 = zf_u m 42 (Int32.toInt v1).toNat u0 → Q m5)))
theorem zq_31_34 {d : Nat} (hd : 2 ≤ d) {Q : zf_Me → Prop} {v1 : Int32} {u0 : Int32} {m : zf_Me} (h : wq_31_34 v1 u0 m Q) : zf_W none 0 0 d zt_31 34 [some (.inr (.inr (1, 35))), some (.inl v1), none] [.inl u0] m (zf_O Q) := by
  unfold wq_31_34 at h
  refine zf_st (pc' := 35) (L2 := [some (.inr (.inr (1, 35))), some (.inl v1), some (.inl u0)]) dX4_tellTired_34 rfl (fun _ _ _ => rfl) rfl rfl rfl rfl rfl rfl ?_
  refine zf_ld (pc' := 36) (v := .inl u0) dX4_tellTired_35 rfl (fun _ _ _ => rfl) rfl rfl rfl ?_
  refine zf_ic (v := (-1)) (pc' := 37) dX4_tellTired_36 rfl rfl ?_
  refine zf_icmp_eq (tgt := 50) (pc' := 40) dX4_tellTired_37 rfl rfl (fun g => ?_) (fun g => ?_)
  · replace h := h.1 g
    exact zf_rv dX4_tellTired_50 rfl h
  · replace h := h.2 g
    refine zf_ld (pc' := 41) (v := .inr (.inr (1, 35))) dX4_tellTired_40 rfl (fun _ _ _ => rfl) rfl rfl rfl ?_
    refine zf_gfr (pc' := 44) (b := 36) dX4_tellTired_41 rfl rfl (by decide) rfl rfl ?_
    refine zf_gfr (pc' := 47) (b := 42) dX4_tellTired_44 rfl rfl zf_walk36.1 zf_walk36.2.1 rfl ?_
    refine zf_ld (pc' := 48) (v := .inl v1) dX4_tellTired_47 rfl (fun _ _ _ => rfl) rfl rfl rfl ?_
    refine zf_ld (pc' := 49) (v := .inl u0) dX4_tellTired_48 rfl (fun _ _ _ => rfl) rfl rfl rfl ?_
    refine zf_ias (pc' := 50) dX4_tellTired_49 rfl zf_walk36.2.2.2.1 zf_walk36.2.2.2.2 h.1 rfl (fun m5 e6 => ?_)
    replace h := h.2 m5 e6
    exact zf_rv dX4_tellTired_50 rfl h
def wp_31 (m : zf_Me) (Q : zf_Me → Prop) : Prop := wp_40 0 ((m.1 37 5) - 1) m (fun x1 m2 => ((¬ x1.toInt = (-1) → wp_40 0 99 m2 (fun x3 m4 => wq_31_34 x1 x3 m4 Q)) ∧ (x1.toInt = (-1) → wq_31_34 x1 (-1) m2 Q)))
theorem zr_31 {d : Nat} (hd : 2 ≤ d) {Q : zf_Me → Prop} {m : zf_Me} (h : wp_31 m Q) : zf_M d 31 [.inr (.inr (1, 35))] m (zf_O Q) := by
  obtain ⟨e, rfl⟩ : ∃ z, d = z + 1 := ⟨d - 1, by omega⟩
  unfold wp_31 at h
  refine zf_M_of (Nat.le_of_ble_eq_true rfl) zm_31 (L := [some (.inr (.inr (1, 35))), none, none]) rfl ?_
  refine zf_ld (pc' := 1) (v := .inr (.inr (1, 35))) dX4_tellTired_0 rfl (fun _ _ _ => rfl) rfl rfl rfl ?_
  refine zf_ic (v := 0) (pc' := 2) dX4_tellTired_1 rfl rfl ?_
  refine zf_ld (pc' := 3) (v := .inr (.inr (1, 35))) dX4_tellTired_2 rfl (fun _ _ _ => rfl) rfl rfl rfl ?_
  refine zf_gfr (pc' := 6) (b := 36) dX4_tellTired_3 rfl rfl (by decide) rfl rfl ?_
  refine zf_gfr (pc' := 9) (b := 37) dX4_tellTired_6 rfl rfl zf_walk36.1 zf_walk36.2.1 rfl ?_
  refine zf_gfi (pc' := 12) dX4_tellTired_9 rfl rfl zf_walk36.2.2.1.1 zf_walk36.2.2.1.2.1 rfl ?_
  refine zf_ic (v := 1) (pc' := 13) dX4_tellTired_12 rfl rfl ?_
  refine zf_in (pc' := 14) (S' := [.inl ((m.1 37 5) - 1), .inl 0, .inr (.inr (1, 35))]) dX4_tellTired_13 rfl (fun _ _ _ => rfl) ?_
  refine zf_iv (k := 40) (pc' := 17) (r := []) dX4_tellTired_14 rfl rfl rfl rfl (by decide) rfl rfl rfl (zr_40 (by omega) h) (zf_kI (fun x1 m2 h => ?_))
  refine zf_st (pc' := 18) (L2 := [some (.inr (.inr (1, 35))), some (.inl x1), none]) dX4_tellTired_17 rfl (fun _ _ _ => rfl) rfl rfl rfl rfl rfl rfl ?_
  refine zf_ld (pc' := 19) (v := .inl x1) dX4_tellTired_18 rfl (fun _ _ _ => rfl) rfl rfl rfl ?_
  refine zf_ic (v := (-1)) (pc' := 20) dX4_tellTired_19 rfl rfl ?_
  refine zf_icmp_ne (tgt := 27) (pc' := 23) dX4_tellTired_20 rfl rfl (fun g => ?_) (fun g => ?_)
  · replace h := h.1 g
    refine zf_ld (pc' := 28) (v := .inr (.inr (1, 35))) dX4_tellTired_27 rfl (fun _ _ _ => rfl) rfl rfl rfl ?_
    refine zf_ic (v := 0) (pc' := 29) dX4_tellTired_28 rfl rfl ?_
    refine zf_bi (v := 99) (pc' := 31) dX4_tellTired_29 rfl rfl ?_
    refine zf_iv (k := 40) (pc' := 34) (r := []) dX4_tellTired_31 rfl rfl rfl rfl (by decide) rfl rfl rfl (zr_40 (by omega) h) (zf_kI (fun x3 m4 h => ?_))
    exact zf_lo (zq_31_34 (by omega) h) ⟨rfl, rfl, trivial⟩
  · replace h := h.2 g
    refine zf_ic (v := (-1)) (pc' := 24) dX4_tellTired_23 rfl rfl ?_
    refine zf_goto (tgt := 34) dX4_tellTired_24 rfl ?_
    exact zf_lo (zq_31_34 (by omega) h) ⟨rfl, rfl, trivial⟩
def zt_32 : zx_MT := (4, yX4_tellBag, cX4_tellBag, 2, none, 0, 0)
theorem zm_32 : zx_m 32 = zt_32 := rfl
theorem dX4_tellBag_r0 : zdcP cX4_tellBag 0 [(.aload_n 0, 1), (.iconst 0, 1), (.aload_n 0, 1), (.getfield 17, 3), (.getfield 43, 3), (.getfield 100, 3), (.iconst 1, 1), (.isub, 1), (.invokevirtual 103, 3), (.istore_n 1, 1), (.iload_n 1, 1), (.iconst (-1), 1), (.if_icmp .eq 11, 3), (.aload_n 0, 1), (.getfield 17, 3), (.iload_n 1, 1)] := zdcA_ok (by decide +kernel)
theorem dX4_tellBag_0 : decode cX4_tellBag 0 = .ok (.aload_n 0, 1) := dX4_tellBag_r0.1
theorem dX4_tellBag_1 : decode cX4_tellBag 1 = .ok (.iconst 0, 1) := dX4_tellBag_r0.2.1
theorem dX4_tellBag_2 : decode cX4_tellBag 2 = .ok (.aload_n 0, 1) := dX4_tellBag_r0.2.2.1
theorem dX4_tellBag_3 : decode cX4_tellBag 3 = .ok (.getfield 17, 3) := dX4_tellBag_r0.2.2.2.1
theorem dX4_tellBag_6 : decode cX4_tellBag 6 = .ok (.getfield 43, 3) := dX4_tellBag_r0.2.2.2.2.1
theorem dX4_tellBag_9 : decode cX4_tellBag 9 = .ok (.getfield 100, 3) := dX4_tellBag_r0.2.2.2.2.2.1
theorem dX4_tellBag_12 : decode cX4_tellBag 12 = .ok (.iconst 1, 1) := dX4_tellBag_r0.2.2.2.2.2.2.1
theorem dX4_tellBag_13 : decode cX4_tellBag 13 = .ok (.isub, 1) := dX4_tellBag_r0.2.2.2.2.2.2.2.1
theorem dX4_tellBag_14 : decode cX4_tellBag 14 = .ok (.invokevirtual 103, 3) := dX4_tellBag_r0.2.2.2.2.2.2.2.2.1
theorem dX4_tellBag_17 : decode cX4_tellBag 17 = .ok (.istore_n 1, 1) := dX4_tellBag_r0.2.2.2.2.2.2.2.2.2.1
theorem dX4_tellBag_18 : decode cX4_tellBag 18 = .ok (.iload_n 1, 1) := dX4_tellBag_r0.2.2.2.2.2.2.2.2.2.2.1
theorem dX4_tellBag_19 : decode cX4_tellBag 19 = .ok (.iconst (-1), 1) := dX4_tellBag_r0.2.2.2.2.2.2.2.2.2.2.2.1
theorem dX4_tellBag_20 : decode cX4_tellBag 20 = .ok (.if_icmp .eq 11, 3) := dX4_tellBag_r0.2.2.2.2.2.2.2.2.2.2.2.2.1
theorem dX4_tellBag_23 : decode cX4_tellBag 23 = .ok (.aload_n 0, 1) := dX4_tellBag_r0.2.2.2.2.2.2.2.2.2.2.2.2.2.1
theorem dX4_tellBag_24 : decode cX4_tellBag 24 = .ok (.getfield 17, 3) := dX4_tellBag_r0.2.2.2.2.2.2.2.2.2.2.2.2.2.2.1
theorem dX4_tellBag_27 : decode cX4_tellBag 27 = .ok (.iload_n 1, 1) := dX4_tellBag_r0.2.2.2.2.2.2.2.2.2.2.2.2.2.2.2.1
theorem dX4_tellBag_r28 : zdcP cX4_tellBag 28 [(.putfield 117, 3), (.return_, 1)] := zdcA_ok (by decide +kernel)
theorem dX4_tellBag_28 : decode cX4_tellBag 28 = .ok (.putfield 117, 3) := dX4_tellBag_r28.1
theorem dX4_tellBag_31 : decode cX4_tellBag 31 = .ok (.return_, 1) := dX4_tellBag_r28.2.1
def wp_32 (m : zf_Me) (Q : zf_Me → Prop) : Prop := wp_40 0 ((m.1 37 5) - 1) m (fun x1 m2 => ((x1.toInt = (-1) → Q m2) ∧ (¬ x1.toInt = (-1) → (∀ m3, m3 = zf_u m2 36 2 x1 → Q m3))))
theorem zr_32 {d : Nat} (hd : 2 ≤ d) {Q : zf_Me → Prop} {m : zf_Me} (h : wp_32 m Q) : zf_M d 32 [.inr (.inr (1, 35))] m (zf_O Q) := by
  obtain ⟨e, rfl⟩ : ∃ z, d = z + 1 := ⟨d - 1, by omega⟩
  unfold wp_32 at h
  refine zf_M_of (Nat.le_of_ble_eq_true rfl) zm_32 (L := [some (.inr (.inr (1, 35))), none]) rfl ?_
  refine zf_ld (pc' := 1) (v := .inr (.inr (1, 35))) dX4_tellBag_0 rfl (fun _ _ _ => rfl) rfl rfl rfl ?_
  refine zf_ic (v := 0) (pc' := 2) dX4_tellBag_1 rfl rfl ?_
  refine zf_ld (pc' := 3) (v := .inr (.inr (1, 35))) dX4_tellBag_2 rfl (fun _ _ _ => rfl) rfl rfl rfl ?_
  refine zf_gfr (pc' := 6) (b := 36) dX4_tellBag_3 rfl rfl (by decide) rfl rfl ?_
  refine zf_gfr (pc' := 9) (b := 37) dX4_tellBag_6 rfl rfl zf_walk36.1 zf_walk36.2.1 rfl ?_
  refine zf_gfi (pc' := 12) dX4_tellBag_9 rfl rfl zf_walk36.2.2.1.1 zf_walk36.2.2.1.2.1 rfl ?_
  refine zf_ic (v := 1) (pc' := 13) dX4_tellBag_12 rfl rfl ?_
  refine zf_in (pc' := 14) (S' := [.inl ((m.1 37 5) - 1), .inl 0, .inr (.inr (1, 35))]) dX4_tellBag_13 rfl (fun _ _ _ => rfl) ?_
  refine zf_iv (k := 40) (pc' := 17) (r := []) dX4_tellBag_14 rfl rfl rfl rfl (by decide) rfl rfl rfl (zr_40 (by omega) h) (zf_kI (fun x1 m2 h => ?_))
  refine zf_st (pc' := 18) (L2 := [some (.inr (.inr (1, 35))), some (.inl x1)]) dX4_tellBag_17 rfl (fun _ _ _ => rfl) rfl rfl rfl rfl rfl rfl ?_
  refine zf_ld (pc' := 19) (v := .inl x1) dX4_tellBag_18 rfl (fun _ _ _ => rfl) rfl rfl rfl ?_
  refine zf_ic (v := (-1)) (pc' := 20) dX4_tellBag_19 rfl rfl ?_
  refine zf_icmp_eq (tgt := 31) (pc' := 23) dX4_tellBag_20 rfl rfl (fun g => ?_) (fun g => ?_)
  · replace h := h.1 g
    exact zf_rv dX4_tellBag_31 rfl h
  · replace h := h.2 g
    refine zf_ld (pc' := 24) (v := .inr (.inr (1, 35))) dX4_tellBag_23 rfl (fun _ _ _ => rfl) rfl rfl rfl ?_
    refine zf_gfr (pc' := 27) (b := 36) dX4_tellBag_24 rfl rfl (by decide) rfl rfl ?_
    refine zf_ld (pc' := 28) (v := .inl x1) dX4_tellBag_27 rfl (fun _ _ _ => rfl) rfl rfl rfl ?_
    refine zf_pf (pc' := 31) dX4_tellBag_28 rfl rfl zf_walk36.1 zf_walk36.2.1 rfl rfl (fun m3 e4 => ?_)
    replace h := h m3 e4
    exact zf_rv dX4_tellBag_31 rfl h
def zt_33 : zx_MT := (4, yX4_tellAct, cX4_tellAct, 2, none, 0, 0)
theorem zm_33 : zx_m 33 = zt_33 := rfl
theorem dX4_tellAct_r0 : zdcP cX4_tellAct 0 [(.aload_n 0, 1), (.iconst 0, 1), (.bipush 9, 2), (.invokevirtual 103, 3), (.istore_n 1, 1), (.iload_n 1, 1), (.iconst (-1), 1), (.if_icmp .ne 4, 3), (.return_, 1), (.aload_n 0, 1), (.getfield 17, 3), (.iload_n 1, 1), (.invokevirtual 120, 3), (.ifCond .eq 14, 3), (.aload_n 0, 1), (.getfield 17, 3)] := zdcA_ok (by decide +kernel)
theorem dX4_tellAct_0 : decode cX4_tellAct 0 = .ok (.aload_n 0, 1) := dX4_tellAct_r0.1
theorem dX4_tellAct_1 : decode cX4_tellAct 1 = .ok (.iconst 0, 1) := dX4_tellAct_r0.2.1
theorem dX4_tellAct_2 : decode cX4_tellAct 2 = .ok (.bipush 9, 2) := dX4_tellAct_r0.2.2.1
theorem dX4_tellAct_4 : decode cX4_tellAct 4 = .ok (.invokevirtual 103, 3) := dX4_tellAct_r0.2.2.2.1
theorem dX4_tellAct_7 : decode cX4_tellAct 7 = .ok (.istore_n 1, 1) := dX4_tellAct_r0.2.2.2.2.1
theorem dX4_tellAct_8 : decode cX4_tellAct 8 = .ok (.iload_n 1, 1) := dX4_tellAct_r0.2.2.2.2.2.1
theorem dX4_tellAct_9 : decode cX4_tellAct 9 = .ok (.iconst (-1), 1) := dX4_tellAct_r0.2.2.2.2.2.2.1
theorem dX4_tellAct_10 : decode cX4_tellAct 10 = .ok (.if_icmp .ne 4, 3) := dX4_tellAct_r0.2.2.2.2.2.2.2.1
theorem dX4_tellAct_13 : decode cX4_tellAct 13 = .ok (.return_, 1) := dX4_tellAct_r0.2.2.2.2.2.2.2.2.1
theorem dX4_tellAct_14 : decode cX4_tellAct 14 = .ok (.aload_n 0, 1) := dX4_tellAct_r0.2.2.2.2.2.2.2.2.2.1
theorem dX4_tellAct_15 : decode cX4_tellAct 15 = .ok (.getfield 17, 3) := dX4_tellAct_r0.2.2.2.2.2.2.2.2.2.2.1
theorem dX4_tellAct_18 : decode cX4_tellAct 18 = .ok (.iload_n 1, 1) := dX4_tellAct_r0.2.2.2.2.2.2.2.2.2.2.2.1
theorem dX4_tellAct_19 : decode cX4_tellAct 19 = .ok (.invokevirtual 120, 3) := dX4_tellAct_r0.2.2.2.2.2.2.2.2.2.2.2.2.1
theorem dX4_tellAct_22 : decode cX4_tellAct 22 = .ok (.ifCond .eq 14, 3) := dX4_tellAct_r0.2.2.2.2.2.2.2.2.2.2.2.2.2.1
theorem dX4_tellAct_25 : decode cX4_tellAct 25 = .ok (.aload_n 0, 1) := dX4_tellAct_r0.2.2.2.2.2.2.2.2.2.2.2.2.2.2.1
theorem dX4_tellAct_26 : decode cX4_tellAct 26 = .ok (.getfield 17, 3) := dX4_tellAct_r0.2.2.2.2.2.2.2.2.2.2.2.2.2.2.2.1
theorem dX4_tellAct_r29 : zdcP cX4_tellAct 29 [(.iload_n 1, 1), (.invokevirtual 123, 3), (.goto 11, 3), (.aload_n 0, 1), (.aload_n 0, 1), (.getfield 34, 3), (.putfield 40, 3), (.return_, 1)] := zdcA_ok (by decide +kernel)
theorem dX4_tellAct_29 : decode cX4_tellAct 29 = .ok (.iload_n 1, 1) := dX4_tellAct_r29.1
theorem dX4_tellAct_30 : decode cX4_tellAct 30 = .ok (.invokevirtual 123, 3) := dX4_tellAct_r29.2.1
theorem dX4_tellAct_33 : decode cX4_tellAct 33 = .ok (.goto 11, 3) := dX4_tellAct_r29.2.2.1
theorem dX4_tellAct_36 : decode cX4_tellAct 36 = .ok (.aload_n 0, 1) := dX4_tellAct_r29.2.2.2.1
theorem dX4_tellAct_37 : decode cX4_tellAct 37 = .ok (.aload_n 0, 1) := dX4_tellAct_r29.2.2.2.2.1
theorem dX4_tellAct_38 : decode cX4_tellAct 38 = .ok (.getfield 34, 3) := dX4_tellAct_r29.2.2.2.2.2.1
theorem dX4_tellAct_41 : decode cX4_tellAct 41 = .ok (.putfield 40, 3) := dX4_tellAct_r29.2.2.2.2.2.2.1
theorem dX4_tellAct_44 : decode cX4_tellAct 44 = .ok (.return_, 1) := dX4_tellAct_r29.2.2.2.2.2.2.2.1
def wp_33 (m : zf_Me) (Q : zf_Me → Prop) : Prop := wp_40 0 9 m (fun x1 m2 => ((¬ x1.toInt = (-1) → wp_52 36 37 42 x1 m2 (fun b3 m4 => ((b3 = false → (∀ m5, m5 = zf_u m4 35 6 (m4.1 35 4) → Q m5)) ∧ (b3 = true → wp_56 36 37 42 x1 m4 (fun m8 => Q m8))))) ∧ (x1.toInt = (-1) → Q m2)))
theorem zr_33 {d : Nat} (hd : 4 ≤ d) {Q : zf_Me → Prop} {m : zf_Me} (h : wp_33 m Q) : zf_M d 33 [.inr (.inr (1, 35))] m (zf_O Q) := by
  obtain ⟨e, rfl⟩ : ∃ z, d = z + 1 := ⟨d - 1, by omega⟩
  unfold wp_33 at h
  refine zf_M_of (Nat.le_of_ble_eq_true rfl) zm_33 (L := [some (.inr (.inr (1, 35))), none]) rfl ?_
  refine zf_ld (pc' := 1) (v := .inr (.inr (1, 35))) dX4_tellAct_0 rfl (fun _ _ _ => rfl) rfl rfl rfl ?_
  refine zf_ic (v := 0) (pc' := 2) dX4_tellAct_1 rfl rfl ?_
  refine zf_bi (v := 9) (pc' := 4) dX4_tellAct_2 rfl rfl ?_
  refine zf_iv (k := 40) (pc' := 7) (r := []) dX4_tellAct_4 rfl rfl rfl rfl (by decide) rfl rfl rfl (zr_40 (by omega) h) (zf_kI (fun x1 m2 h => ?_))
  refine zf_st (pc' := 8) (L2 := [some (.inr (.inr (1, 35))), some (.inl x1)]) dX4_tellAct_7 rfl (fun _ _ _ => rfl) rfl rfl rfl rfl rfl rfl ?_
  refine zf_ld (pc' := 9) (v := .inl x1) dX4_tellAct_8 rfl (fun _ _ _ => rfl) rfl rfl rfl ?_
  refine zf_ic (v := (-1)) (pc' := 10) dX4_tellAct_9 rfl rfl ?_
  refine zf_icmp_ne (tgt := 14) (pc' := 13) dX4_tellAct_10 rfl rfl (fun g => ?_) (fun g => ?_)
  · replace h := h.1 g
    refine zf_ld (pc' := 15) (v := .inr (.inr (1, 35))) dX4_tellAct_14 rfl (fun _ _ _ => rfl) rfl rfl rfl ?_
    refine zf_gfr (pc' := 18) (b := 36) dX4_tellAct_15 rfl rfl (by decide) rfl rfl ?_
    refine zf_ld (pc' := 19) (v := .inl x1) dX4_tellAct_18 rfl (fun _ _ _ => rfl) rfl rfl rfl ?_
    refine zf_iv (k := 52) (pc' := 22) (r := []) dX4_tellAct_19 rfl rfl rfl rfl zf_walk36.1 zf_walk36.2.1 rfl rfl (zr_52 (by omega) zf_walk36 h) (zf_kB (fun b3 m4 h => ?_))
    refine zf_ib_eq (tgt := 36) (pc' := 25) dX4_tellAct_22 rfl rfl (fun g => ?_) (fun g => ?_)
    · replace h := h.1 g
      refine zf_ld (pc' := 37) (v := .inr (.inr (1, 35))) dX4_tellAct_36 rfl (fun _ _ _ => rfl) rfl rfl rfl ?_
      refine zf_ld (pc' := 38) (v := .inr (.inr (1, 35))) dX4_tellAct_37 rfl (fun _ _ _ => rfl) rfl rfl rfl ?_
      refine zf_gfi (pc' := 41) dX4_tellAct_38 rfl rfl (by decide) rfl rfl ?_
      refine zf_pf (pc' := 44) dX4_tellAct_41 rfl rfl (by decide) rfl rfl rfl (fun m5 e6 => ?_)
      replace h := h m5 e6
      exact zf_rv dX4_tellAct_44 rfl h
    · replace h := h.2 g
      refine zf_ld (pc' := 26) (v := .inr (.inr (1, 35))) dX4_tellAct_25 rfl (fun _ _ _ => rfl) rfl rfl rfl ?_
      refine zf_gfr (pc' := 29) (b := 36) dX4_tellAct_26 rfl rfl (by decide) rfl rfl ?_
      refine zf_ld (pc' := 30) (v := .inl x1) dX4_tellAct_29 rfl (fun _ _ _ => rfl) rfl rfl rfl ?_
      refine zf_iv (k := 56) (pc' := 33) (r := []) dX4_tellAct_30 rfl rfl rfl rfl zf_walk36.1 zf_walk36.2.1 rfl rfl (zr_56 (by omega) zf_walk36 h) (zf_kO (fun m8 h => ?_))
      refine zf_goto (tgt := 44) dX4_tellAct_33 rfl ?_
      exact zf_rv dX4_tellAct_44 rfl h
  · replace h := h.2 g
    exact zf_rv dX4_tellAct_13 rfl h
def zt_46 : zx_MT := (5, yX5_become, cX5_become, 3, none, 2, 0)
theorem zm_46 : zx_m 46 = zt_46 := rfl
theorem dX5_become_0 : decode cX5_become 0 = .ok (.iload_n 1, 1) := zdc_ok (by decide +kernel)
theorem dX5_become_1 : decode cX5_become 1 = .ok (.tableswitch 75 0 3 #[31, 51, 59, 67], 31) := by decide +kernel
theorem dX5_become_r32 : zdcP cX5_become 32 [(.aload_n 0, 1), (.iload_n 2, 1), (.putfield 19, 3), (.aload_n 0, 1), (.aload_n 0, 1), (.getfield 22, 3), (.iload_n 2, 1), (.invokestatic 70, 3), (.putfield 22, 3), (.goto 32, 3), (.aload_n 0, 1), (.iload_n 2, 1), (.putfield 25, 3), (.goto 24, 3), (.aload_n 0, 1), (.iload_n 2, 1)] := zdcA_ok (by decide +kernel)
theorem dX5_become_32 : decode cX5_become 32 = .ok (.aload_n 0, 1) := dX5_become_r32.1
theorem dX5_become_33 : decode cX5_become 33 = .ok (.iload_n 2, 1) := dX5_become_r32.2.1
theorem dX5_become_34 : decode cX5_become 34 = .ok (.putfield 19, 3) := dX5_become_r32.2.2.1
theorem dX5_become_37 : decode cX5_become 37 = .ok (.aload_n 0, 1) := dX5_become_r32.2.2.2.1
theorem dX5_become_38 : decode cX5_become 38 = .ok (.aload_n 0, 1) := dX5_become_r32.2.2.2.2.1
theorem dX5_become_39 : decode cX5_become 39 = .ok (.getfield 22, 3) := dX5_become_r32.2.2.2.2.2.1
theorem dX5_become_42 : decode cX5_become 42 = .ok (.iload_n 2, 1) := dX5_become_r32.2.2.2.2.2.2.1
theorem dX5_become_43 : decode cX5_become 43 = .ok (.invokestatic 70, 3) := dX5_become_r32.2.2.2.2.2.2.2.1
theorem dX5_become_46 : decode cX5_become 46 = .ok (.putfield 22, 3) := dX5_become_r32.2.2.2.2.2.2.2.2.1
theorem dX5_become_49 : decode cX5_become 49 = .ok (.goto 32, 3) := dX5_become_r32.2.2.2.2.2.2.2.2.2.1
theorem dX5_become_52 : decode cX5_become 52 = .ok (.aload_n 0, 1) := dX5_become_r32.2.2.2.2.2.2.2.2.2.2.1
theorem dX5_become_53 : decode cX5_become 53 = .ok (.iload_n 2, 1) := dX5_become_r32.2.2.2.2.2.2.2.2.2.2.2.1
theorem dX5_become_54 : decode cX5_become 54 = .ok (.putfield 25, 3) := dX5_become_r32.2.2.2.2.2.2.2.2.2.2.2.2.1
theorem dX5_become_57 : decode cX5_become 57 = .ok (.goto 24, 3) := dX5_become_r32.2.2.2.2.2.2.2.2.2.2.2.2.2.1
theorem dX5_become_60 : decode cX5_become 60 = .ok (.aload_n 0, 1) := dX5_become_r32.2.2.2.2.2.2.2.2.2.2.2.2.2.2.1
theorem dX5_become_61 : decode cX5_become 61 = .ok (.iload_n 2, 1) := dX5_become_r32.2.2.2.2.2.2.2.2.2.2.2.2.2.2.2.1
theorem dX5_become_r62 : zdcP cX5_become 62 [(.putfield 37, 3), (.goto 16, 3), (.aload_n 0, 1), (.iload_n 2, 1), (.putfield 31, 3), (.goto 8, 3), (.aload_n 0, 1), (.iload_n 2, 1), (.putfield 34, 3), (.return_, 1)] := zdcA_ok (by decide +kernel)
theorem dX5_become_62 : decode cX5_become 62 = .ok (.putfield 37, 3) := dX5_become_r62.1
theorem dX5_become_65 : decode cX5_become 65 = .ok (.goto 16, 3) := dX5_become_r62.2.1
theorem dX5_become_68 : decode cX5_become 68 = .ok (.aload_n 0, 1) := dX5_become_r62.2.2.1
theorem dX5_become_69 : decode cX5_become 69 = .ok (.iload_n 2, 1) := dX5_become_r62.2.2.2.1
theorem dX5_become_70 : decode cX5_become 70 = .ok (.putfield 31, 3) := dX5_become_r62.2.2.2.2.1
theorem dX5_become_73 : decode cX5_become 73 = .ok (.goto 8, 3) := dX5_become_r62.2.2.2.2.2.1
theorem dX5_become_76 : decode cX5_become 76 = .ok (.aload_n 0, 1) := dX5_become_r62.2.2.2.2.2.2.1
theorem dX5_become_77 : decode cX5_become 77 = .ok (.iload_n 2, 1) := dX5_become_r62.2.2.2.2.2.2.2.1
theorem dX5_become_78 : decode cX5_become 78 = .ok (.putfield 34, 3) := dX5_become_r62.2.2.2.2.2.2.2.2.1
theorem dX5_become_81 : decode cX5_become 81 = .ok (.return_, 1) := dX5_become_r62.2.2.2.2.2.2.2.2.2.1
def wp_46 (w0 : Nat) (y0 : Nat) (r0 : Nat) (v1 : Int32) (v2 : Int32) (m : zf_Me) (Q : zf_Me → Prop) : Prop := (((v1.toInt < 0 ∨ v1.toInt > 3) → (∀ m1, m1 = zf_u m w0 8 v2 → Q m1)) ∧ (v1.toInt = 0 → (∀ m3, m3 = zf_u m w0 3 v2 → (∀ m5, m5 = zf_u m3 w0 4 (if v2 < (m3.1 w0 4) then v2 else (m3.1 w0 4)) → Q m5))) ∧ (v1.toInt = 1 → (∀ m7, m7 = zf_u m w0 5 v2 → Q m7)) ∧ (v1.toInt = 2 → (∀ m9, m9 = zf_u m w0 9 v2 → Q m9)) ∧ (v1.toInt = 3 → (∀ m11, m11 = zf_u m w0 7 v2 → Q m11)))
theorem zr_46 {d : Nat} (hd : 0 ≤ d) {w0 : Nat} {y0 : Nat} {r0 : Nat} (hp0 : zf_walk w0 y0 r0) {v1 : Int32} {v2 : Int32} {Q : zf_Me → Prop} {m : zf_Me} (h : wp_46 w0 y0 r0 v1 v2 m Q) : zf_M d 46 [.inr (.inr (1, w0)), .inl v1, .inl v2] m (zf_O Q) := by
  unfold wp_46 at h
  refine zf_M_of (Nat.le_of_ble_eq_true rfl) zm_46 (L := [some (.inr (.inr (1, w0))), some (.inl v1), some (.inl v2)]) rfl ?_
  refine zf_ld (pc' := 1) (v := .inl v1) dX5_become_0 rfl (fun _ _ _ => rfl) rfl rfl rfl ?_
  refine zf_tsc (tgd := 76) dX5_become_1 rfl [32, 52, 60, 68] (by decide) (by decide) (fun g => ?_) (zl_cons (fun g => ?_) (zl_cons (fun g => ?_) (zl_cons (fun g => ?_) (zl_cons (fun g => ?_) (zl_nil)))))
  · replace h := h.1 (by omega)
    refine zf_ld (pc' := 77) (v := .inr (.inr (1, w0))) dX5_become_76 rfl (fun _ _ _ => rfl) rfl rfl rfl ?_
    refine zf_ld (pc' := 78) (v := .inl v2) dX5_become_77 rfl (fun _ _ _ => rfl) rfl rfl rfl ?_
    refine zf_pf (pc' := 81) dX5_become_78 rfl rfl hp0.1 hp0.2.1 rfl rfl (fun m1 e2 => ?_)
    replace h := h m1 e2
    exact zf_rv dX5_become_81 rfl h
  · replace h := h.2.1 (by omega)
    refine zf_ld (pc' := 33) (v := .inr (.inr (1, w0))) dX5_become_32 rfl (fun _ _ _ => rfl) rfl rfl rfl ?_
    refine zf_ld (pc' := 34) (v := .inl v2) dX5_become_33 rfl (fun _ _ _ => rfl) rfl rfl rfl ?_
    refine zf_pf (pc' := 37) dX5_become_34 rfl rfl hp0.1 hp0.2.1 rfl rfl (fun m3 e4 => ?_)
    replace h := h m3 e4
    refine zf_ld (pc' := 38) (v := .inr (.inr (1, w0))) dX5_become_37 rfl (fun _ _ _ => rfl) rfl rfl rfl ?_
    refine zf_ld (pc' := 39) (v := .inr (.inr (1, w0))) dX5_become_38 rfl (fun _ _ _ => rfl) rfl rfl rfl ?_
    refine zf_gfi (pc' := 42) dX5_become_39 rfl rfl hp0.1 hp0.2.1 rfl ?_
    refine zf_ld (pc' := 43) (v := .inl v2) dX5_become_42 rfl (fun _ _ _ => rfl) rfl rfl rfl ?_
    refine zf_min (pc' := 46) dX5_become_43 rfl rfl rfl ?_
    refine zf_pf (pc' := 49) dX5_become_46 rfl rfl hp0.1 hp0.2.1 rfl rfl (fun m5 e6 => ?_)
    replace h := h m5 e6
    refine zf_goto (tgt := 81) dX5_become_49 rfl ?_
    exact zf_rv dX5_become_81 rfl h
  · replace h := h.2.2.1 (by omega)
    refine zf_ld (pc' := 53) (v := .inr (.inr (1, w0))) dX5_become_52 rfl (fun _ _ _ => rfl) rfl rfl rfl ?_
    refine zf_ld (pc' := 54) (v := .inl v2) dX5_become_53 rfl (fun _ _ _ => rfl) rfl rfl rfl ?_
    refine zf_pf (pc' := 57) dX5_become_54 rfl rfl hp0.1 hp0.2.1 rfl rfl (fun m7 e8 => ?_)
    replace h := h m7 e8
    refine zf_goto (tgt := 81) dX5_become_57 rfl ?_
    exact zf_rv dX5_become_81 rfl h
  · replace h := h.2.2.2.1 (by omega)
    refine zf_ld (pc' := 61) (v := .inr (.inr (1, w0))) dX5_become_60 rfl (fun _ _ _ => rfl) rfl rfl rfl ?_
    refine zf_ld (pc' := 62) (v := .inl v2) dX5_become_61 rfl (fun _ _ _ => rfl) rfl rfl rfl ?_
    refine zf_pf (pc' := 65) dX5_become_62 rfl rfl hp0.1 hp0.2.1 rfl rfl (fun m9 e10 => ?_)
    replace h := h m9 e10
    refine zf_goto (tgt := 81) dX5_become_65 rfl ?_
    exact zf_rv dX5_become_81 rfl h
  · replace h := h.2.2.2.2 (by omega)
    refine zf_ld (pc' := 69) (v := .inr (.inr (1, w0))) dX5_become_68 rfl (fun _ _ _ => rfl) rfl rfl rfl ?_
    refine zf_ld (pc' := 70) (v := .inl v2) dX5_become_69 rfl (fun _ _ _ => rfl) rfl rfl rfl ?_
    refine zf_pf (pc' := 73) dX5_become_70 rfl rfl hp0.1 hp0.2.1 rfl rfl (fun m11 e12 => ?_)
    replace h := h m11 e12
    refine zf_goto (tgt := 81) dX5_become_73 rfl ?_
    exact zf_rv dX5_become_81 rfl h
