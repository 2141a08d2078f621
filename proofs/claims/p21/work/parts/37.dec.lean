/-! part 37: methods 146..: laid by wip/flat/dec.py -/
def zt_146 : zx_MT := (8, yX8_isAsked, cX8_isAsked, 3, (some FieldType.boolean), 2, 0)
theorem zm_146 : zx_m 146 = zt_146 := rfl
theorem dX8_isAsked_r0 : zdcP cX8_isAsked 0 [(.iload_n 2, 1), (.iload_n 1, 1), (.iconst 3, 1), (.if_icmp .ge 7, 3), (.iconst 1, 1), (.goto 4, 3), (.iconst 0, 1), (.if_icmp .lt 23, 3), (.iload_n 2, 1), (.iload_n 1, 1), (.iconst 2, 1), (.if_icmp .ne 8, 3), (.bipush 99, 2), (.goto 5, 3), (.bipush 9, 2), (.if_icmp .gt 7, 3)] := zdcA_ok (by decide +kernel)
theorem dX8_isAsked_0 : decode cX8_isAsked 0 = .ok (.iload_n 2, 1) := dX8_isAsked_r0.1
theorem dX8_isAsked_1 : decode cX8_isAsked 1 = .ok (.iload_n 1, 1) := dX8_isAsked_r0.2.1
theorem dX8_isAsked_2 : decode cX8_isAsked 2 = .ok (.iconst 3, 1) := dX8_isAsked_r0.2.2.1
theorem dX8_isAsked_3 : decode cX8_isAsked 3 = .ok (.if_icmp .ge 7, 3) := dX8_isAsked_r0.2.2.2.1
theorem dX8_isAsked_6 : decode cX8_isAsked 6 = .ok (.iconst 1, 1) := dX8_isAsked_r0.2.2.2.2.1
theorem dX8_isAsked_7 : decode cX8_isAsked 7 = .ok (.goto 4, 3) := dX8_isAsked_r0.2.2.2.2.2.1
theorem dX8_isAsked_10 : decode cX8_isAsked 10 = .ok (.iconst 0, 1) := dX8_isAsked_r0.2.2.2.2.2.2.1
theorem dX8_isAsked_11 : decode cX8_isAsked 11 = .ok (.if_icmp .lt 23, 3) := dX8_isAsked_r0.2.2.2.2.2.2.2.1
theorem dX8_isAsked_14 : decode cX8_isAsked 14 = .ok (.iload_n 2, 1) := dX8_isAsked_r0.2.2.2.2.2.2.2.2.1
theorem dX8_isAsked_15 : decode cX8_isAsked 15 = .ok (.iload_n 1, 1) := dX8_isAsked_r0.2.2.2.2.2.2.2.2.2.1
theorem dX8_isAsked_16 : decode cX8_isAsked 16 = .ok (.iconst 2, 1) := dX8_isAsked_r0.2.2.2.2.2.2.2.2.2.2.1
theorem dX8_isAsked_17 : decode cX8_isAsked 17 = .ok (.if_icmp .ne 8, 3) := dX8_isAsked_r0.2.2.2.2.2.2.2.2.2.2.2.1
theorem dX8_isAsked_20 : decode cX8_isAsked 20 = .ok (.bipush 99, 2) := dX8_isAsked_r0.2.2.2.2.2.2.2.2.2.2.2.2.1
theorem dX8_isAsked_22 : decode cX8_isAsked 22 = .ok (.goto 5, 3) := dX8_isAsked_r0.2.2.2.2.2.2.2.2.2.2.2.2.2.1
theorem dX8_isAsked_25 : decode cX8_isAsked 25 = .ok (.bipush 9, 2) := dX8_isAsked_r0.2.2.2.2.2.2.2.2.2.2.2.2.2.2.1
theorem dX8_isAsked_27 : decode cX8_isAsked 27 = .ok (.if_icmp .gt 7, 3) := dX8_isAsked_r0.2.2.2.2.2.2.2.2.2.2.2.2.2.2.2.1
theorem dX8_isAsked_r30 : zdcP cX8_isAsked 30 [(.iconst 1, 1), (.goto 4, 3), (.iconst 0, 1), (.ireturn, 1)] := zdcA_ok (by decide +kernel)
theorem dX8_isAsked_30 : decode cX8_isAsked 30 = .ok (.iconst 1, 1) := dX8_isAsked_r30.1
theorem dX8_isAsked_31 : decode cX8_isAsked 31 = .ok (.goto 4, 3) := dX8_isAsked_r30.2.1
theorem dX8_isAsked_34 : decode cX8_isAsked 34 = .ok (.iconst 0, 1) := dX8_isAsked_r30.2.2.1
theorem dX8_isAsked_35 : decode cX8_isAsked 35 = .ok (.ireturn, 1) := dX8_isAsked_r30.2.2.2.1
def wq_146_11 (v1 : Int32) (v2 : Int32) (u0 : Int32) (u1 : Int32) (m : zf_Me) (Q : Bool → zf_Me → Prop) : Prop := ((u1.toInt < u0.toInt → Q false m) ∧ (u1.toInt ≥ u0.toInt → ((¬ v1.toInt = 2 → ((v2.toInt > 9 → Q false m) ∧ (v2.toInt ≤ 9 → Q true m))) ∧ (v1.toInt = 2 → ((v2.toInt > 99 → Q false m) ∧ (v2.toInt ≤ 99 → Q true m))))))
theorem zq_146_11 {d : Nat} (hd : 0 ≤ d) {v1 : Int32} {v2 : Int32} {Q : Bool → zf_Me → Prop} {u0 : Int32} {u1 : Int32} {m : zf_Me} (h : wq_146_11 v1 v2 u0 u1 m Q) : zf_W none 0 0 d zt_146 11 [none, some (.inl v1), some (.inl v2)] [.inl u0, .inl u1] m (zf_B Q) := by
  unfold wq_146_11 at h
  refine zf_icmp_lt (tgt := 34) (pc' := 14) dX8_isAsked_11 rfl rfl (fun g => ?_) (fun g => ?_)
  · replace h := h.1 g
    refine zf_ic (v := 0) (pc' := 35) dX8_isAsked_34 rfl rfl ?_
    exact zf_rb (b := false) dX8_isAsked_35 rfl h
  · replace h := h.2 g
    refine zf_ld (pc' := 15) (v := .inl v2) dX8_isAsked_14 rfl (fun _ _ _ => rfl) rfl rfl rfl ?_
    refine zf_ld (pc' := 16) (v := .inl v1) dX8_isAsked_15 rfl (fun _ _ _ => rfl) rfl rfl rfl ?_
    refine zf_ic (v := 2) (pc' := 17) dX8_isAsked_16 rfl rfl ?_
    refine zf_icmp_ne (tgt := 25) (pc' := 20) dX8_isAsked_17 rfl rfl (fun g => ?_) (fun g => ?_)
    · replace h := h.1 g
      refine zf_bi (v := 9) (pc' := 27) dX8_isAsked_25 rfl rfl ?_
      refine zf_icmp_gt (tgt := 34) (pc' := 30) dX8_isAsked_27 rfl rfl (fun g => ?_) (fun g => ?_)
      · replace h := h.1 g
        refine zf_ic (v := 0) (pc' := 35) dX8_isAsked_34 rfl rfl ?_
        exact zf_rb (b := false) dX8_isAsked_35 rfl h
      · replace h := h.2 g
        refine zf_ic (v := 1) (pc' := 31) dX8_isAsked_30 rfl rfl ?_
        refine zf_goto (tgt := 35) dX8_isAsked_31 rfl ?_
        exact zf_rb (b := true) dX8_isAsked_35 rfl h
    · replace h := h.2 g
      refine zf_bi (v := 99) (pc' := 22) dX8_isAsked_20 rfl rfl ?_
      refine zf_goto (tgt := 27) dX8_isAsked_22 rfl ?_
      refine zf_icmp_gt (tgt := 34) (pc' := 30) dX8_isAsked_27 rfl rfl (fun g => ?_) (fun g => ?_)
      · replace h := h.1 g
        refine zf_ic (v := 0) (pc' := 35) dX8_isAsked_34 rfl rfl ?_
        exact zf_rb (b := false) dX8_isAsked_35 rfl h
      · replace h := h.2 g
        refine zf_ic (v := 1) (pc' := 31) dX8_isAsked_30 rfl rfl ?_
        refine zf_goto (tgt := 35) dX8_isAsked_31 rfl ?_
        exact zf_rb (b := true) dX8_isAsked_35 rfl h
def wp_146 (v1 : Int32) (v2 : Int32) (m : zf_Me) (Q : Bool → zf_Me → Prop) : Prop := ((v1.toInt ≥ 3 → wq_146_11 v1 v2 0 v2 m Q) ∧ (v1.toInt < 3 → wq_146_11 v1 v2 1 v2 m Q))
theorem zr_146 {d : Nat} (hd : 0 ≤ d) {v1 : Int32} {v2 : Int32} {Q : Bool → zf_Me → Prop} {m : zf_Me} (h : wp_146 v1 v2 m Q) : zf_M d 146 [.inr (.inr (1, 63)), .inl v1, .inl v2] m (zf_B Q) := by
  unfold wp_146 at h
  refine zf_M_of (Nat.le_of_ble_eq_true rfl) zm_146 (L := [some (.inr (.inr (1, 63))), some (.inl v1), some (.inl v2)]) rfl ?_
  refine zf_ld (pc' := 1) (v := .inl v2) dX8_isAsked_0 rfl (fun _ _ _ => rfl) rfl rfl rfl ?_
  refine zf_ld (pc' := 2) (v := .inl v1) dX8_isAsked_1 rfl (fun _ _ _ => rfl) rfl rfl rfl ?_
  refine zf_ic (v := 3) (pc' := 3) dX8_isAsked_2 rfl rfl ?_
  refine zf_icmp_ge (tgt := 10) (pc' := 6) dX8_isAsked_3 rfl rfl (fun g => ?_) (fun g => ?_)
  · replace h := h.1 g
    refine zf_ic (v := 0) (pc' := 11) dX8_isAsked_10 rfl rfl ?_
    exact zf_lo (zq_146_11 (by omega) h) ⟨rfl, rfl, trivial⟩
  · replace h := h.2 g
    refine zf_ic (v := 1) (pc' := 7) dX8_isAsked_6 rfl rfl ?_
    refine zf_goto (tgt := 11) dX8_isAsked_7 rfl ?_
    exact zf_lo (zq_146_11 (by omega) h) ⟨rfl, rfl, trivial⟩
def zt_147 : zx_MT := (8, yX8_told, cX8_told, 2, (some FieldType.int), 1, 0)
theorem zm_147 : zx_m 147 = zt_147 := rfl
theorem dX8_told_r0 : zdcP cX8_told 0 [(.iload_n 1, 1), (.ifCond .ne 10, 3), (.aload_n 0, 1), (.getfield 16, 3), (.goto 43, 3), (.iload_n 1, 1), (.iconst 1, 1), (.if_icmp .ne 10, 3), (.aload_n 0, 1), (.getfield 19, 3), (.goto 31, 3), (.iload_n 1, 1), (.iconst 2, 1), (.if_icmp .ne 10, 3), (.aload_n 0, 1), (.getfield 28, 3)] := zdcA_ok (by decide +kernel)
theorem dX8_told_0 : decode cX8_told 0 = .ok (.iload_n 1, 1) := dX8_told_r0.1
theorem dX8_told_1 : decode cX8_told 1 = .ok (.ifCond .ne 10, 3) := dX8_told_r0.2.1
theorem dX8_told_4 : decode cX8_told 4 = .ok (.aload_n 0, 1) := dX8_told_r0.2.2.1
theorem dX8_told_5 : decode cX8_told 5 = .ok (.getfield 16, 3) := dX8_told_r0.2.2.2.1
theorem dX8_told_8 : decode cX8_told 8 = .ok (.goto 43, 3) := dX8_told_r0.2.2.2.2.1
theorem dX8_told_11 : decode cX8_told 11 = .ok (.iload_n 1, 1) := dX8_told_r0.2.2.2.2.2.1
theorem dX8_told_12 : decode cX8_told 12 = .ok (.iconst 1, 1) := dX8_told_r0.2.2.2.2.2.2.1
theorem dX8_told_13 : decode cX8_told 13 = .ok (.if_icmp .ne 10, 3) := dX8_told_r0.2.2.2.2.2.2.2.1
theorem dX8_told_16 : decode cX8_told 16 = .ok (.aload_n 0, 1) := dX8_told_r0.2.2.2.2.2.2.2.2.1
theorem dX8_told_17 : decode cX8_told 17 = .ok (.getfield 19, 3) := dX8_told_r0.2.2.2.2.2.2.2.2.2.1
theorem dX8_told_20 : decode cX8_told 20 = .ok (.goto 31, 3) := dX8_told_r0.2.2.2.2.2.2.2.2.2.2.1
theorem dX8_told_23 : decode cX8_told 23 = .ok (.iload_n 1, 1) := dX8_told_r0.2.2.2.2.2.2.2.2.2.2.2.1
theorem dX8_told_24 : decode cX8_told 24 = .ok (.iconst 2, 1) := dX8_told_r0.2.2.2.2.2.2.2.2.2.2.2.2.1
theorem dX8_told_25 : decode cX8_told 25 = .ok (.if_icmp .ne 10, 3) := dX8_told_r0.2.2.2.2.2.2.2.2.2.2.2.2.2.1
theorem dX8_told_28 : decode cX8_told 28 = .ok (.aload_n 0, 1) := dX8_told_r0.2.2.2.2.2.2.2.2.2.2.2.2.2.2.1
theorem dX8_told_29 : decode cX8_told 29 = .ok (.getfield 28, 3) := dX8_told_r0.2.2.2.2.2.2.2.2.2.2.2.2.2.2.2.1
theorem dX8_told_r32 : zdcP cX8_told 32 [(.goto 19, 3), (.iload_n 1, 1), (.iconst 3, 1), (.if_icmp .ne 10, 3), (.aload_n 0, 1), (.getfield 22, 3), (.goto 7, 3), (.aload_n 0, 1), (.getfield 25, 3), (.ireturn, 1)] := zdcA_ok (by decide +kernel)
theorem dX8_told_32 : decode cX8_told 32 = .ok (.goto 19, 3) := dX8_told_r32.1
theorem dX8_told_35 : decode cX8_told 35 = .ok (.iload_n 1, 1) := dX8_told_r32.2.1
theorem dX8_told_36 : decode cX8_told 36 = .ok (.iconst 3, 1) := dX8_told_r32.2.2.1
theorem dX8_told_37 : decode cX8_told 37 = .ok (.if_icmp .ne 10, 3) := dX8_told_r32.2.2.2.1
theorem dX8_told_40 : decode cX8_told 40 = .ok (.aload_n 0, 1) := dX8_told_r32.2.2.2.2.1
theorem dX8_told_41 : decode cX8_told 41 = .ok (.getfield 22, 3) := dX8_told_r32.2.2.2.2.2.1
theorem dX8_told_44 : decode cX8_told 44 = .ok (.goto 7, 3) := dX8_told_r32.2.2.2.2.2.2.1
theorem dX8_told_47 : decode cX8_told 47 = .ok (.aload_n 0, 1) := dX8_told_r32.2.2.2.2.2.2.2.1
theorem dX8_told_48 : decode cX8_told 48 = .ok (.getfield 25, 3) := dX8_told_r32.2.2.2.2.2.2.2.2.1
theorem dX8_told_51 : decode cX8_told 51 = .ok (.ireturn, 1) := dX8_told_r32.2.2.2.2.2.2.2.2.2.1
def wp_147 (v1 : Int32) (m : zf_Me) (Q : Int32 → zf_Me → Prop) : Prop := ((¬ v1.toInt = 0 → ((¬ v1.toInt = 1 → ((¬ v1.toInt = 2 → ((¬ v1.toInt = 3 → Q (m.1 63 8) m) ∧ (v1.toInt = 3 → Q (m.1 63 7) m))) ∧ (v1.toInt = 2 → Q (m.1 63 9) m))) ∧ (v1.toInt = 1 → Q (m.1 63 5) m))) ∧ (v1.toInt = 0 → Q (m.1 63 4) m))
theorem zr_147 {d : Nat} (hd : 0 ≤ d) {v1 : Int32} {Q : Int32 → zf_Me → Prop} {m : zf_Me} (h : wp_147 v1 m Q) : zf_M d 147 [.inr (.inr (1, 63)), .inl v1] m (zf_I Q) := by
  unfold wp_147 at h
  refine zf_M_of (Nat.le_of_ble_eq_true rfl) zm_147 (L := [some (.inr (.inr (1, 63))), some (.inl v1)]) rfl ?_
  refine zf_ld (pc' := 1) (v := .inl v1) dX8_told_0 rfl (fun _ _ _ => rfl) rfl rfl rfl ?_
  refine zf_if_ne (tgt := 11) (pc' := 4) dX8_told_1 rfl rfl (fun g => ?_) (fun g => ?_)
  · replace h := h.1 g
    refine zf_ld (pc' := 12) (v := .inl v1) dX8_told_11 rfl (fun _ _ _ => rfl) rfl rfl rfl ?_
    refine zf_ic (v := 1) (pc' := 13) dX8_told_12 rfl rfl ?_
    refine zf_icmp_ne (tgt := 23) (pc' := 16) dX8_told_13 rfl rfl (fun g => ?_) (fun g => ?_)
    · replace h := h.1 g
      refine zf_ld (pc' := 24) (v := .inl v1) dX8_told_23 rfl (fun _ _ _ => rfl) rfl rfl rfl ?_
      refine zf_ic (v := 2) (pc' := 25) dX8_told_24 rfl rfl ?_
      refine zf_icmp_ne (tgt := 35) (pc' := 28) dX8_told_25 rfl rfl (fun g => ?_) (fun g => ?_)
      · replace h := h.1 g
        refine zf_ld (pc' := 36) (v := .inl v1) dX8_told_35 rfl (fun _ _ _ => rfl) rfl rfl rfl ?_
        refine zf_ic (v := 3) (pc' := 37) dX8_told_36 rfl rfl ?_
        refine zf_icmp_ne (tgt := 47) (pc' := 40) dX8_told_37 rfl rfl (fun g => ?_) (fun g => ?_)
        · replace h := h.1 g
          refine zf_ld (pc' := 48) (v := .inr (.inr (1, 63))) dX8_told_47 rfl (fun _ _ _ => rfl) rfl rfl rfl ?_
          refine zf_gfi (pc' := 51) dX8_told_48 rfl rfl (by decide) rfl rfl ?_
          exact zf_ri dX8_told_51 rfl h
        · replace h := h.2 g
          refine zf_ld (pc' := 41) (v := .inr (.inr (1, 63))) dX8_told_40 rfl (fun _ _ _ => rfl) rfl rfl rfl ?_
          refine zf_gfi (pc' := 44) dX8_told_41 rfl rfl (by decide) rfl rfl ?_
          refine zf_goto (tgt := 51) dX8_told_44 rfl ?_
          exact zf_ri dX8_told_51 rfl h
      · replace h := h.2 g
        refine zf_ld (pc' := 29) (v := .inr (.inr (1, 63))) dX8_told_28 rfl (fun _ _ _ => rfl) rfl rfl rfl ?_
        refine zf_gfi (pc' := 32) dX8_told_29 rfl rfl (by decide) rfl rfl ?_
        refine zf_goto (tgt := 51) dX8_told_32 rfl ?_
        exact zf_ri dX8_told_51 rfl h
    · replace h := h.2 g
      refine zf_ld (pc' := 17) (v := .inr (.inr (1, 63))) dX8_told_16 rfl (fun _ _ _ => rfl) rfl rfl rfl ?_
      refine zf_gfi (pc' := 20) dX8_told_17 rfl rfl (by decide) rfl rfl ?_
      refine zf_goto (tgt := 51) dX8_told_20 rfl ?_
      exact zf_ri dX8_told_51 rfl h
  · replace h := h.2 g
    refine zf_ld (pc' := 5) (v := .inr (.inr (1, 63))) dX8_told_4 rfl (fun _ _ _ => rfl) rfl rfl rfl ?_
    refine zf_gfi (pc' := 8) dX8_told_5 rfl rfl (by decide) rfl rfl ?_
    refine zf_goto (tgt := 51) dX8_told_8 rfl ?_
    exact zf_ri dX8_told_51 rfl h
def zt_148 : zx_MT := (8, yX8_tells, cX8_tells, 3, none, 2, 0)
theorem zm_148 : zx_m 148 = zt_148 := rfl
theorem dX8_tells_0 : decode cX8_tells 0 = .ok (.iload_n 1, 1) := zdc_ok (by decide +kernel)
theorem dX8_tells_1 : decode cX8_tells 1 = .ok (.tableswitch 63 0 3 #[31, 39, 47, 55], 31) := by decide +kernel
theorem dX8_tells_r32 : zdcP cX8_tells 32 [(.aload_n 0, 1), (.iload_n 2, 1), (.putfield 16, 3), (.goto 32, 3), (.aload_n 0, 1), (.iload_n 2, 1), (.putfield 19, 3), (.goto 24, 3), (.aload_n 0, 1), (.iload_n 2, 1), (.putfield 28, 3), (.goto 16, 3), (.aload_n 0, 1), (.iload_n 2, 1), (.putfield 22, 3), (.goto 8, 3)] := zdcA_ok (by decide +kernel)
theorem dX8_tells_32 : decode cX8_tells 32 = .ok (.aload_n 0, 1) := dX8_tells_r32.1
theorem dX8_tells_33 : decode cX8_tells 33 = .ok (.iload_n 2, 1) := dX8_tells_r32.2.1
theorem dX8_tells_34 : decode cX8_tells 34 = .ok (.putfield 16, 3) := dX8_tells_r32.2.2.1
theorem dX8_tells_37 : decode cX8_tells 37 = .ok (.goto 32, 3) := dX8_tells_r32.2.2.2.1
theorem dX8_tells_40 : decode cX8_tells 40 = .ok (.aload_n 0, 1) := dX8_tells_r32.2.2.2.2.1
theorem dX8_tells_41 : decode cX8_tells 41 = .ok (.iload_n 2, 1) := dX8_tells_r32.2.2.2.2.2.1
theorem dX8_tells_42 : decode cX8_tells 42 = .ok (.putfield 19, 3) := dX8_tells_r32.2.2.2.2.2.2.1
theorem dX8_tells_45 : decode cX8_tells 45 = .ok (.goto 24, 3) := dX8_tells_r32.2.2.2.2.2.2.2.1
theorem dX8_tells_48 : decode cX8_tells 48 = .ok (.aload_n 0, 1) := dX8_tells_r32.2.2.2.2.2.2.2.2.1
theorem dX8_tells_49 : decode cX8_tells 49 = .ok (.iload_n 2, 1) := dX8_tells_r32.2.2.2.2.2.2.2.2.2.1
theorem dX8_tells_50 : decode cX8_tells 50 = .ok (.putfield 28, 3) := dX8_tells_r32.2.2.2.2.2.2.2.2.2.2.1
theorem dX8_tells_53 : decode cX8_tells 53 = .ok (.goto 16, 3) := dX8_tells_r32.2.2.2.2.2.2.2.2.2.2.2.1
theorem dX8_tells_56 : decode cX8_tells 56 = .ok (.aload_n 0, 1) := dX8_tells_r32.2.2.2.2.2.2.2.2.2.2.2.2.1
theorem dX8_tells_57 : decode cX8_tells 57 = .ok (.iload_n 2, 1) := dX8_tells_r32.2.2.2.2.2.2.2.2.2.2.2.2.2.1
theorem dX8_tells_58 : decode cX8_tells 58 = .ok (.putfield 22, 3) := dX8_tells_r32.2.2.2.2.2.2.2.2.2.2.2.2.2.2.1
theorem dX8_tells_61 : decode cX8_tells 61 = .ok (.goto 8, 3) := dX8_tells_r32.2.2.2.2.2.2.2.2.2.2.2.2.2.2.2.1
theorem dX8_tells_r64 : zdcP cX8_tells 64 [(.aload_n 0, 1), (.iload_n 2, 1), (.putfield 25, 3), (.return_, 1)] := zdcA_ok (by decide +kernel)
theorem dX8_tells_64 : decode cX8_tells 64 = .ok (.aload_n 0, 1) := dX8_tells_r64.1
theorem dX8_tells_65 : decode cX8_tells 65 = .ok (.iload_n 2, 1) := dX8_tells_r64.2.1
theorem dX8_tells_66 : decode cX8_tells 66 = .ok (.putfield 25, 3) := dX8_tells_r64.2.2.1
theorem dX8_tells_69 : decode cX8_tells 69 = .ok (.return_, 1) := dX8_tells_r64.2.2.2.1
def wp_148 (v1 : Int32) (v2 : Int32) (m : zf_Me) (Q : zf_Me → Prop) : Prop := (((v1.toInt < 0 ∨ v1.toInt > 3) → (∀ m1, m1 = zf_u m 63 8 v2 → Q m1)) ∧ (v1.toInt = 0 → (∀ m3, m3 = zf_u m 63 4 v2 → Q m3)) ∧ (v1.toInt = 1 → (∀ m5, m5 = zf_u m 63 5 v2 → Q m5)) ∧ (v1.toInt = 2 → (∀ m7, m7 = zf_u m 63 9 v2 → Q m7)) ∧ (v1.toInt = 3 → (∀ m9, m9 = zf_u m 63 7 v2 → Q m9)))
theorem zr_148 {d : Nat} (hd : 0 ≤ d) {v1 : Int32} {v2 : Int32} {Q : zf_Me → Prop} {m : zf_Me} (h : wp_148 v1 v2 m Q) : zf_M d 148 [.inr (.inr (1, 63)), .inl v1, .inl v2] m (zf_O Q) := by
  unfold wp_148 at h
  refine zf_M_of (Nat.le_of_ble_eq_true rfl) zm_148 (L := [some (.inr (.inr (1, 63))), some (.inl v1), some (.inl v2)]) rfl ?_
  refine zf_ld (pc' := 1) (v := .inl v1) dX8_tells_0 rfl (fun _ _ _ => rfl) rfl rfl rfl ?_
  refine zf_tsc (tgd := 64) dX8_tells_1 rfl [32, 40, 48, 56] (by decide) (by decide) (fun g => ?_) (zl_cons (fun g => ?_) (zl_cons (fun g => ?_) (zl_cons (fun g => ?_) (zl_cons (fun g => ?_) (zl_nil)))))
  · replace h := h.1 (by omega)
    refine zf_ld (pc' := 65) (v := .inr (.inr (1, 63))) dX8_tells_64 rfl (fun _ _ _ => rfl) rfl rfl rfl ?_
    refine zf_ld (pc' := 66) (v := .inl v2) dX8_tells_65 rfl (fun _ _ _ => rfl) rfl rfl rfl ?_
    refine zf_pf (pc' := 69) dX8_tells_66 rfl rfl (by decide) rfl rfl rfl (fun m1 e2 => ?_)
    replace h := h m1 e2
    exact zf_rv dX8_tells_69 rfl h
  · replace h := h.2.1 (by omega)
    refine zf_ld (pc' := 33) (v := .inr (.inr (1, 63))) dX8_tells_32 rfl (fun _ _ _ => rfl) rfl rfl rfl ?_
    refine zf_ld (pc' := 34) (v := .inl v2) dX8_tells_33 rfl (fun _ _ _ => rfl) rfl rfl rfl ?_
    refine zf_pf (pc' := 37) dX8_tells_34 rfl rfl (by decide) rfl rfl rfl (fun m3 e4 => ?_)
    replace h := h m3 e4
    refine zf_goto (tgt := 69) dX8_tells_37 rfl ?_
    exact zf_rv dX8_tells_69 rfl h
  · replace h := h.2.2.1 (by omega)
    refine zf_ld (pc' := 41) (v := .inr (.inr (1, 63))) dX8_tells_40 rfl (fun _ _ _ => rfl) rfl rfl rfl ?_
    refine zf_ld (pc' := 42) (v := .inl v2) dX8_tells_41 rfl (fun _ _ _ => rfl) rfl rfl rfl ?_
    refine zf_pf (pc' := 45) dX8_tells_42 rfl rfl (by decide) rfl rfl rfl (fun m5 e6 => ?_)
    replace h := h m5 e6
    refine zf_goto (tgt := 69) dX8_tells_45 rfl ?_
    exact zf_rv dX8_tells_69 rfl h
  · replace h := h.2.2.2.1 (by omega)
    refine zf_ld (pc' := 49) (v := .inr (.inr (1, 63))) dX8_tells_48 rfl (fun _ _ _ => rfl) rfl rfl rfl ?_
    refine zf_ld (pc' := 50) (v := .inl v2) dX8_tells_49 rfl (fun _ _ _ => rfl) rfl rfl rfl ?_
    refine zf_pf (pc' := 53) dX8_tells_50 rfl rfl (by decide) rfl rfl rfl (fun m7 e8 => ?_)
    replace h := h m7 e8
    refine zf_goto (tgt := 69) dX8_tells_53 rfl ?_
    exact zf_rv dX8_tells_69 rfl h
  · replace h := h.2.2.2.2 (by omega)
    refine zf_ld (pc' := 57) (v := .inr (.inr (1, 63))) dX8_tells_56 rfl (fun _ _ _ => rfl) rfl rfl rfl ?_
    refine zf_ld (pc' := 58) (v := .inl v2) dX8_tells_57 rfl (fun _ _ _ => rfl) rfl rfl rfl ?_
    refine zf_pf (pc' := 61) dX8_tells_58 rfl rfl (by decide) rfl rfl rfl (fun m9 e10 => ?_)
    replace h := h m9 e10
    refine zf_goto (tgt := 69) dX8_tells_61 rfl ?_
    exact zf_rv dX8_tells_69 rfl h
def zt_149 : zx_MT := (8, yX8_asks, cX8_asks, 4, (some FieldType.int), 2, 0)
theorem zm_149 : zx_m 149 = zt_149 := rfl
theorem dX8_asks_r0 : zdcP cX8_asks 0 [(.aload_n 0, 1), (.iload_n 1, 1), (.invokevirtual 145, 3), (.istore_n 3, 1), (.aload_n 0, 1), (.iload_n 1, 1), (.iload_n 2, 1), (.invokevirtual 148, 3), (.iload_n 1, 1), (.ifCond .ne 16, 3), (.aload_n 0, 1), (.getfield 13, 3), (.iload_n 2, 1), (.if_icmp .le 8, 3), (.aload_n 0, 1), (.iload_n 2, 1)] := zdcA_ok (by decide +kernel)
theorem dX8_asks_0 : decode cX8_asks 0 = .ok (.aload_n 0, 1) := dX8_asks_r0.1
theorem dX8_asks_1 : decode cX8_asks 1 = .ok (.iload_n 1, 1) := dX8_asks_r0.2.1
theorem dX8_asks_2 : decode cX8_asks 2 = .ok (.invokevirtual 145, 3) := dX8_asks_r0.2.2.1
theorem dX8_asks_5 : decode cX8_asks 5 = .ok (.istore_n 3, 1) := dX8_asks_r0.2.2.2.1
theorem dX8_asks_6 : decode cX8_asks 6 = .ok (.aload_n 0, 1) := dX8_asks_r0.2.2.2.2.1
theorem dX8_asks_7 : decode cX8_asks 7 = .ok (.iload_n 1, 1) := dX8_asks_r0.2.2.2.2.2.1
theorem dX8_asks_8 : decode cX8_asks 8 = .ok (.iload_n 2, 1) := dX8_asks_r0.2.2.2.2.2.2.1
theorem dX8_asks_9 : decode cX8_asks 9 = .ok (.invokevirtual 148, 3) := dX8_asks_r0.2.2.2.2.2.2.2.1
theorem dX8_asks_12 : decode cX8_asks 12 = .ok (.iload_n 1, 1) := dX8_asks_r0.2.2.2.2.2.2.2.2.1
theorem dX8_asks_13 : decode cX8_asks 13 = .ok (.ifCond .ne 16, 3) := dX8_asks_r0.2.2.2.2.2.2.2.2.2.1
theorem dX8_asks_16 : decode cX8_asks 16 = .ok (.aload_n 0, 1) := dX8_asks_r0.2.2.2.2.2.2.2.2.2.2.1
theorem dX8_asks_17 : decode cX8_asks 17 = .ok (.getfield 13, 3) := dX8_asks_r0.2.2.2.2.2.2.2.2.2.2.2.1
theorem dX8_asks_20 : decode cX8_asks 20 = .ok (.iload_n 2, 1) := dX8_asks_r0.2.2.2.2.2.2.2.2.2.2.2.2.1
theorem dX8_asks_21 : decode cX8_asks 21 = .ok (.if_icmp .le 8, 3) := dX8_asks_r0.2.2.2.2.2.2.2.2.2.2.2.2.2.1
theorem dX8_asks_24 : decode cX8_asks 24 = .ok (.aload_n 0, 1) := dX8_asks_r0.2.2.2.2.2.2.2.2.2.2.2.2.2.2.1
theorem dX8_asks_25 : decode cX8_asks 25 = .ok (.iload_n 2, 1) := dX8_asks_r0.2.2.2.2.2.2.2.2.2.2.2.2.2.2.2.1
theorem dX8_asks_r26 : zdcP cX8_asks 26 [(.putfield 13, 3), (.iload_n 3, 1), (.ireturn, 1)] := zdcA_ok (by decide +kernel)
theorem dX8_asks_26 : decode cX8_asks 26 = .ok (.putfield 13, 3) := dX8_asks_r26.1
theorem dX8_asks_29 : decode cX8_asks 29 = .ok (.iload_n 3, 1) := dX8_asks_r26.2.1
theorem dX8_asks_30 : decode cX8_asks 30 = .ok (.ireturn, 1) := dX8_asks_r26.2.2.1
def wp_149 (v1 : Int32) (v2 : Int32) (m : zf_Me) (Q : Int32 → zf_Me → Prop) : Prop := wp_147 v1 m (fun x1 m2 => wp_148 v1 v2 m2 (fun m4 => ((¬ v1.toInt = 0 → Q x1 m4) ∧ (v1.toInt = 0 → ((((m4.1 63 3)).toInt ≤ v2.toInt → Q x1 m4) ∧ (((m4.1 63 3)).toInt > v2.toInt → (∀ m5, m5 = zf_u m4 63 3 v2 → Q x1 m5)))))))
theorem zr_149 {d : Nat} (hd : 1 ≤ d) {v1 : Int32} {v2 : Int32} {Q : Int32 → zf_Me → Prop} {m : zf_Me} (h : wp_149 v1 v2 m Q) : zf_M d 149 [.inr (.inr (1, 63)), .inl v1, .inl v2] m (zf_I Q) := by
  obtain ⟨e, rfl⟩ : ∃ z, d = z + 1 := ⟨d - 1, by omega⟩
  unfold wp_149 at h
  refine zf_M_of (Nat.le_of_ble_eq_true rfl) zm_149 (L := [some (.inr (.inr (1, 63))), some (.inl v1), some (.inl v2), none]) rfl ?_
  refine zf_ld (pc' := 1) (v := .inr (.inr (1, 63))) dX8_asks_0 rfl (fun _ _ _ => rfl) rfl rfl rfl ?_
  refine zf_ld (pc' := 2) (v := .inl v1) dX8_asks_1 rfl (fun _ _ _ => rfl) rfl rfl rfl ?_
  refine zf_iv (k := 147) (pc' := 5) (r := []) dX8_asks_2 rfl rfl rfl rfl (by decide) rfl rfl rfl (zr_147 (by omega) h) (zf_kI (fun x1 m2 h => ?_))
  refine zf_st (pc' := 6) (L2 := [some (.inr (.inr (1, 63))), some (.inl v1), some (.inl v2), some (.inl x1)]) dX8_asks_5 rfl (fun _ _ _ => rfl) rfl rfl rfl rfl rfl rfl ?_
  refine zf_ld (pc' := 7) (v := .inr (.inr (1, 63))) dX8_asks_6 rfl (fun _ _ _ => rfl) rfl rfl rfl ?_
  refine zf_ld (pc' := 8) (v := .inl v1) dX8_asks_7 rfl (fun _ _ _ => rfl) rfl rfl rfl ?_
  refine zf_ld (pc' := 9) (v := .inl v2) dX8_asks_8 rfl (fun _ _ _ => rfl) rfl rfl rfl ?_
  refine zf_iv (k := 148) (pc' := 12) (r := []) dX8_asks_9 rfl rfl rfl rfl (by decide) rfl rfl rfl (zr_148 (by omega) h) (zf_kO (fun m4 h => ?_))
  refine zf_ld (pc' := 13) (v := .inl v1) dX8_asks_12 rfl (fun _ _ _ => rfl) rfl rfl rfl ?_
  refine zf_if_ne (tgt := 29) (pc' := 16) dX8_asks_13 rfl rfl (fun g => ?_) (fun g => ?_)
  · replace h := h.1 g
    refine zf_ld (pc' := 30) (v := .inl x1) dX8_asks_29 rfl (fun _ _ _ => rfl) rfl rfl rfl ?_
    exact zf_ri dX8_asks_30 rfl h
  · replace h := h.2 g
    refine zf_ld (pc' := 17) (v := .inr (.inr (1, 63))) dX8_asks_16 rfl (fun _ _ _ => rfl) rfl rfl rfl ?_
    refine zf_gfi (pc' := 20) dX8_asks_17 rfl rfl (by decide) rfl rfl ?_
    refine zf_ld (pc' := 21) (v := .inl v2) dX8_asks_20 rfl (fun _ _ _ => rfl) rfl rfl rfl ?_
    refine zf_icmp_le (tgt := 29) (pc' := 24) dX8_asks_21 rfl rfl (fun g => ?_) (fun g => ?_)
    · replace h := h.1 g
      refine zf_ld (pc' := 30) (v := .inl x1) dX8_asks_29 rfl (fun _ _ _ => rfl) rfl rfl rfl ?_
      exact zf_ri dX8_asks_30 rfl h
    · replace h := h.2 g
      refine zf_ld (pc' := 25) (v := .inr (.inr (1, 63))) dX8_asks_24 rfl (fun _ _ _ => rfl) rfl rfl rfl ?_
      refine zf_ld (pc' := 26) (v := .inl v2) dX8_asks_25 rfl (fun _ _ _ => rfl) rfl rfl rfl ?_
      refine zf_pf (pc' := 29) dX8_asks_26 rfl rfl (by decide) rfl rfl rfl (fun m5 e6 => ?_)
      replace h := h m5 e6
      refine zf_ld (pc' := 30) (v := .inl x1) dX8_asks_29 rfl (fun _ _ _ => rfl) rfl rfl rfl ?_
      exact zf_ri dX8_asks_30 rfl h
def zt_150 : zx_MT := (8, yX8_ask, cX8_ask, 3, (some FieldType.int), 2, 0)
theorem zm_150 : zx_m 150 = zt_150 := rfl
theorem dX8_ask_r0 : zdcP cX8_ask 0 [(.iload_n 1, 1), (.ifCond .lt 26, 3), (.iload_n 1, 1), (.iconst 4, 1), (.if_icmp .gt 21, 3), (.aload_n 0, 1), (.iload_n 1, 1), (.iload_n 2, 1), (.invokevirtual 152, 3), (.ifCond .eq 12, 3), (.aload_n 0, 1), (.iload_n 1, 1), (.iload_n 2, 1), (.invokevirtual 156, 3), (.goto 9, 3), (.aload_n 0, 1)] := zdcA_ok (by decide +kernel)
theorem dX8_ask_0 : decode cX8_ask 0 = .ok (.iload_n 1, 1) := dX8_ask_r0.1
theorem dX8_ask_1 : decode cX8_ask 1 = .ok (.ifCond .lt 26, 3) := dX8_ask_r0.2.1
theorem dX8_ask_4 : decode cX8_ask 4 = .ok (.iload_n 1, 1) := dX8_ask_r0.2.2.1
theorem dX8_ask_5 : decode cX8_ask 5 = .ok (.iconst 4, 1) := dX8_ask_r0.2.2.2.1
theorem dX8_ask_6 : decode cX8_ask 6 = .ok (.if_icmp .gt 21, 3) := dX8_ask_r0.2.2.2.2.1
theorem dX8_ask_9 : decode cX8_ask 9 = .ok (.aload_n 0, 1) := dX8_ask_r0.2.2.2.2.2.1
theorem dX8_ask_10 : decode cX8_ask 10 = .ok (.iload_n 1, 1) := dX8_ask_r0.2.2.2.2.2.2.1
theorem dX8_ask_11 : decode cX8_ask 11 = .ok (.iload_n 2, 1) := dX8_ask_r0.2.2.2.2.2.2.2.1
theorem dX8_ask_12 : decode cX8_ask 12 = .ok (.invokevirtual 152, 3) := dX8_ask_r0.2.2.2.2.2.2.2.2.1
theorem dX8_ask_15 : decode cX8_ask 15 = .ok (.ifCond .eq 12, 3) := dX8_ask_r0.2.2.2.2.2.2.2.2.2.1
theorem dX8_ask_18 : decode cX8_ask 18 = .ok (.aload_n 0, 1) := dX8_ask_r0.2.2.2.2.2.2.2.2.2.2.1
theorem dX8_ask_19 : decode cX8_ask 19 = .ok (.iload_n 1, 1) := dX8_ask_r0.2.2.2.2.2.2.2.2.2.2.2.1
theorem dX8_ask_20 : decode cX8_ask 20 = .ok (.iload_n 2, 1) := dX8_ask_r0.2.2.2.2.2.2.2.2.2.2.2.2.1
theorem dX8_ask_21 : decode cX8_ask 21 = .ok (.invokevirtual 156, 3) := dX8_ask_r0.2.2.2.2.2.2.2.2.2.2.2.2.2.1
theorem dX8_ask_24 : decode cX8_ask 24 = .ok (.goto 9, 3) := dX8_ask_r0.2.2.2.2.2.2.2.2.2.2.2.2.2.2.1
theorem dX8_ask_27 : decode cX8_ask 27 = .ok (.aload_n 0, 1) := dX8_ask_r0.2.2.2.2.2.2.2.2.2.2.2.2.2.2.2.1
theorem dX8_ask_r28 : zdcP cX8_ask 28 [(.bipush (-6), 2), (.invokevirtual 115, 3), (.ireturn, 1)] := zdcA_ok (by decide +kernel)
theorem dX8_ask_28 : decode cX8_ask 28 = .ok (.bipush (-6), 2) := dX8_ask_r28.1
theorem dX8_ask_30 : decode cX8_ask 30 = .ok (.invokevirtual 115, 3) := dX8_ask_r28.2.1
theorem dX8_ask_33 : decode cX8_ask 33 = .ok (.ireturn, 1) := dX8_ask_r28.2.2.1
def wp_150 (v1 : Int32) (v2 : Int32) (m : zf_Me) (Q : Int32 → zf_Me → Prop) : Prop := ((v1.toInt < 0 → wp_125 (-6) m (fun x1 m2 => Q x1 m2)) ∧ (v1.toInt ≥ 0 → ((v1.toInt > 4 → wp_125 (-6) m (fun x3 m4 => Q x3 m4)) ∧ (v1.toInt ≤ 4 → wp_146 v1 v2 m (fun b5 m6 => ((b5 = false → wp_125 (-6) m6 (fun x7 m8 => Q x7 m8)) ∧ (b5 = true → wp_149 v1 v2 m6 (fun x9 m10 => Q x9 m10))))))))
theorem zr_150 {d : Nat} (hd : 2 ≤ d) {v1 : Int32} {v2 : Int32} {Q : Int32 → zf_Me → Prop} {m : zf_Me} (h : wp_150 v1 v2 m Q) : zf_M d 150 [.inr (.inr (1, 63)), .inl v1, .inl v2] m (zf_I Q) := by
  obtain ⟨e, rfl⟩ : ∃ z, d = z + 1 := ⟨d - 1, by omega⟩
  unfold wp_150 at h
  refine zf_M_of (Nat.le_of_ble_eq_true rfl) zm_150 (L := [some (.inr (.inr (1, 63))), some (.inl v1), some (.inl v2)]) rfl ?_
  refine zf_ld (pc' := 1) (v := .inl v1) dX8_ask_0 rfl (fun _ _ _ => rfl) rfl rfl rfl ?_
  refine zf_if_lt (tgt := 27) (pc' := 4) dX8_ask_1 rfl rfl (fun g => ?_) (fun g => ?_)
  · replace h := h.1 g
    refine zf_ld (pc' := 28) (v := .inr (.inr (1, 63))) dX8_ask_27 rfl (fun _ _ _ => rfl) rfl rfl rfl ?_
    refine zf_bi (v := (-6)) (pc' := 30) dX8_ask_28 rfl rfl ?_
    refine zf_iv (k := 125) (pc' := 33) (r := []) dX8_ask_30 rfl rfl rfl rfl (by decide) rfl rfl rfl (zr_125 (by omega) h) (zf_kI (fun x1 m2 h => ?_))
    exact zf_ri dX8_ask_33 rfl h
  · replace h := h.2 g
    refine zf_ld (pc' := 5) (v := .inl v1) dX8_ask_4 rfl (fun _ _ _ => rfl) rfl rfl rfl ?_
    refine zf_ic (v := 4) (pc' := 6) dX8_ask_5 rfl rfl ?_
    refine zf_icmp_gt (tgt := 27) (pc' := 9) dX8_ask_6 rfl rfl (fun g => ?_) (fun g => ?_)
    · replace h := h.1 g
      refine zf_ld (pc' := 28) (v := .inr (.inr (1, 63))) dX8_ask_27 rfl (fun _ _ _ => rfl) rfl rfl rfl ?_
      refine zf_bi (v := (-6)) (pc' := 30) dX8_ask_28 rfl rfl ?_
      refine zf_iv (k := 125) (pc' := 33) (r := []) dX8_ask_30 rfl rfl rfl rfl (by decide) rfl rfl rfl (zr_125 (by omega) h) (zf_kI (fun x3 m4 h => ?_))
      exact zf_ri dX8_ask_33 rfl h
    · replace h := h.2 g
      refine zf_ld (pc' := 10) (v := .inr (.inr (1, 63))) dX8_ask_9 rfl (fun _ _ _ => rfl) rfl rfl rfl ?_
      refine zf_ld (pc' := 11) (v := .inl v1) dX8_ask_10 rfl (fun _ _ _ => rfl) rfl rfl rfl ?_
      refine zf_ld (pc' := 12) (v := .inl v2) dX8_ask_11 rfl (fun _ _ _ => rfl) rfl rfl rfl ?_
      refine zf_iv (k := 146) (pc' := 15) (r := []) dX8_ask_12 rfl rfl rfl rfl (by decide) rfl rfl rfl (zr_146 (by omega) h) (zf_kB (fun b5 m6 h => ?_))
      refine zf_ib_eq (tgt := 27) (pc' := 18) dX8_ask_15 rfl rfl (fun g => ?_) (fun g => ?_)
      · replace h := h.1 g
        refine zf_ld (pc' := 28) (v := .inr (.inr (1, 63))) dX8_ask_27 rfl (fun _ _ _ => rfl) rfl rfl rfl ?_
        refine zf_bi (v := (-6)) (pc' := 30) dX8_ask_28 rfl rfl ?_
        refine zf_iv (k := 125) (pc' := 33) (r := []) dX8_ask_30 rfl rfl rfl rfl (by decide) rfl rfl rfl (zr_125 (by omega) h) (zf_kI (fun x7 m8 h => ?_))
        exact zf_ri dX8_ask_33 rfl h
      · replace h := h.2 g
        refine zf_ld (pc' := 19) (v := .inr (.inr (1, 63))) dX8_ask_18 rfl (fun _ _ _ => rfl) rfl rfl rfl ?_
        refine zf_ld (pc' := 20) (v := .inl v1) dX8_ask_19 rfl (fun _ _ _ => rfl) rfl rfl rfl ?_
        refine zf_ld (pc' := 21) (v := .inl v2) dX8_ask_20 rfl (fun _ _ _ => rfl) rfl rfl rfl ?_
        refine zf_iv (k := 149) (pc' := 24) (r := []) dX8_ask_21 rfl rfl rfl rfl (by decide) rfl rfl rfl (zr_149 (by omega) h) (zf_kI (fun x9 m10 h => ?_))
        refine zf_goto (tgt := 33) dX8_ask_24 rfl ?_
        exact zf_ri dX8_ask_33 rfl h
def zt_151 : zx_MT := (8, yX8_tire, cX8_tire, 4, (some FieldType.int), 2, 0)
theorem zm_151 : zx_m 151 = zt_151 := rfl
theorem dX8_tire_r0 : zdcP cX8_tire 0 [(.aload_n 0, 1), (.iload_n 1, 1), (.invokevirtual 119, 3), (.ifCond .ne 9, 3), (.aload_n 0, 1), (.iconst (-1), 1), (.invokevirtual 115, 3), (.ireturn, 1), (.iload_n 2, 1), (.ifCond .lt 9, 3), (.iload_n 2, 1), (.bipush 99, 2), (.if_icmp .le 10, 3), (.aload_n 0, 1), (.bipush (-6), 2), (.invokevirtual 115, 3)] := zdcA_ok (by decide +kernel)
theorem dX8_tire_0 : decode cX8_tire 0 = .ok (.aload_n 0, 1) := dX8_tire_r0.1
theorem dX8_tire_1 : decode cX8_tire 1 = .ok (.iload_n 1, 1) := dX8_tire_r0.2.1
theorem dX8_tire_2 : decode cX8_tire 2 = .ok (.invokevirtual 119, 3) := dX8_tire_r0.2.2.1
theorem dX8_tire_5 : decode cX8_tire 5 = .ok (.ifCond .ne 9, 3) := dX8_tire_r0.2.2.2.1
theorem dX8_tire_8 : decode cX8_tire 8 = .ok (.aload_n 0, 1) := dX8_tire_r0.2.2.2.2.1
theorem dX8_tire_9 : decode cX8_tire 9 = .ok (.iconst (-1), 1) := dX8_tire_r0.2.2.2.2.2.1
theorem dX8_tire_10 : decode cX8_tire 10 = .ok (.invokevirtual 115, 3) := dX8_tire_r0.2.2.2.2.2.2.1
theorem dX8_tire_13 : decode cX8_tire 13 = .ok (.ireturn, 1) := dX8_tire_r0.2.2.2.2.2.2.2.1
theorem dX8_tire_14 : decode cX8_tire 14 = .ok (.iload_n 2, 1) := dX8_tire_r0.2.2.2.2.2.2.2.2.1
theorem dX8_tire_15 : decode cX8_tire 15 = .ok (.ifCond .lt 9, 3) := dX8_tire_r0.2.2.2.2.2.2.2.2.2.1
theorem dX8_tire_18 : decode cX8_tire 18 = .ok (.iload_n 2, 1) := dX8_tire_r0.2.2.2.2.2.2.2.2.2.2.1
theorem dX8_tire_19 : decode cX8_tire 19 = .ok (.bipush 99, 2) := dX8_tire_r0.2.2.2.2.2.2.2.2.2.2.2.1
theorem dX8_tire_21 : decode cX8_tire 21 = .ok (.if_icmp .le 10, 3) := dX8_tire_r0.2.2.2.2.2.2.2.2.2.2.2.2.1
theorem dX8_tire_24 : decode cX8_tire 24 = .ok (.aload_n 0, 1) := dX8_tire_r0.2.2.2.2.2.2.2.2.2.2.2.2.2.1
theorem dX8_tire_25 : decode cX8_tire 25 = .ok (.bipush (-6), 2) := dX8_tire_r0.2.2.2.2.2.2.2.2.2.2.2.2.2.2.1
theorem dX8_tire_27 : decode cX8_tire 27 = .ok (.invokevirtual 115, 3) := dX8_tire_r0.2.2.2.2.2.2.2.2.2.2.2.2.2.2.2.1
theorem dX8_tire_r30 : zdcP cX8_tire 30 [(.ireturn, 1), (.aload_n 0, 1), (.getfield 53, 3), (.iload_n 1, 1), (.iaload, 1), (.istore_n 3, 1), (.aload_n 0, 1), (.getfield 53, 3), (.iload_n 1, 1), (.iload_n 2, 1), (.iastore, 1), (.iload_n 3, 1), (.ireturn, 1)] := zdcA_ok (by decide +kernel)
theorem dX8_tire_30 : decode cX8_tire 30 = .ok (.ireturn, 1) := dX8_tire_r30.1
theorem dX8_tire_31 : decode cX8_tire 31 = .ok (.aload_n 0, 1) := dX8_tire_r30.2.1
theorem dX8_tire_32 : decode cX8_tire 32 = .ok (.getfield 53, 3) := dX8_tire_r30.2.2.1
theorem dX8_tire_35 : decode cX8_tire 35 = .ok (.iload_n 1, 1) := dX8_tire_r30.2.2.2.1
theorem dX8_tire_36 : decode cX8_tire 36 = .ok (.iaload, 1) := dX8_tire_r30.2.2.2.2.1
theorem dX8_tire_37 : decode cX8_tire 37 = .ok (.istore_n 3, 1) := dX8_tire_r30.2.2.2.2.2.1
theorem dX8_tire_38 : decode cX8_tire 38 = .ok (.aload_n 0, 1) := dX8_tire_r30.2.2.2.2.2.2.1
theorem dX8_tire_39 : decode cX8_tire 39 = .ok (.getfield 53, 3) := dX8_tire_r30.2.2.2.2.2.2.2.1
theorem dX8_tire_42 : decode cX8_tire 42 = .ok (.iload_n 1, 1) := dX8_tire_r30.2.2.2.2.2.2.2.2.1
theorem dX8_tire_43 : decode cX8_tire 43 = .ok (.iload_n 2, 1) := dX8_tire_r30.2.2.2.2.2.2.2.2.2.1
theorem dX8_tire_44 : decode cX8_tire 44 = .ok (.iastore, 1) := dX8_tire_r30.2.2.2.2.2.2.2.2.2.2.1
theorem dX8_tire_45 : decode cX8_tire 45 = .ok (.iload_n 3, 1) := dX8_tire_r30.2.2.2.2.2.2.2.2.2.2.2.1
theorem dX8_tire_46 : decode cX8_tire 46 = .ok (.ireturn, 1) := dX8_tire_r30.2.2.2.2.2.2.2.2.2.2.2.2.1
def wp_151 (v1 : Int32) (v2 : Int32) (m : zf_Me) (Q : Int32 → zf_Me → Prop) : Prop := wp_128 v1 m (fun b1 m2 => ((b1 = true → ((v2.toInt < 0 → wp_125 (-6) m2 (fun x3 m4 => Q x3 m4)) ∧ (v2.toInt ≥ 0 → ((v2.toInt ≤ 99 → ((0 ≤ (Int32.toInt v1) ∧ (Int32.toInt v1) < (6 : Int)) ∧ ((0 ≤ (Int32.toInt v1) ∧ (Int32.toInt v1) < (6 : Int)) ∧ ∀ m5, m5 = zf_u m2 69 (Int32.toInt v1).toNat v2 → Q (m2.1 69 (Int32.toInt v1).toNat) m5))) ∧ (v2.toInt > 99 → wp_125 (-6) m2 (fun x7 m8 => Q x7 m8)))))) ∧ (b1 = false → wp_125 (-1) m2 (fun x9 m10 => Q x9 m10))))
theorem zr_151 {d : Nat} (hd : 1 ≤ d) {v1 : Int32} {v2 : Int32} {Q : Int32 → zf_Me → Prop} {m : zf_Me} (h : wp_151 v1 v2 m Q) : zf_M d 151 [.inr (.inr (1, 63)), .inl v1, .inl v2] m (zf_I Q) := by
  obtain ⟨e, rfl⟩ : ∃ z, d = z + 1 := ⟨d - 1, by omega⟩
  unfold wp_151 at h
  refine zf_M_of (Nat.le_of_ble_eq_true rfl) zm_151 (L := [some (.inr (.inr (1, 63))), some (.inl v1), some (.inl v2), none]) rfl ?_
  refine zf_ld (pc' := 1) (v := .inr (.inr (1, 63))) dX8_tire_0 rfl (fun _ _ _ => rfl) rfl rfl rfl ?_
  refine zf_ld (pc' := 2) (v := .inl v1) dX8_tire_1 rfl (fun _ _ _ => rfl) rfl rfl rfl ?_
  refine zf_iv (k := 128) (pc' := 5) (r := []) dX8_tire_2 rfl rfl rfl rfl (by decide) rfl rfl rfl (zr_128 (by omega) h) (zf_kB (fun b1 m2 h => ?_))
  refine zf_ib_ne (tgt := 14) (pc' := 8) dX8_tire_5 rfl rfl (fun g => ?_) (fun g => ?_)
  · replace h := h.1 g
    refine zf_ld (pc' := 15) (v := .inl v2) dX8_tire_14 rfl (fun _ _ _ => rfl) rfl rfl rfl ?_
    refine zf_if_lt (tgt := 24) (pc' := 18) dX8_tire_15 rfl rfl (fun g => ?_) (fun g => ?_)
    · replace h := h.1 g
      refine zf_ld (pc' := 25) (v := .inr (.inr (1, 63))) dX8_tire_24 rfl (fun _ _ _ => rfl) rfl rfl rfl ?_
      refine zf_bi (v := (-6)) (pc' := 27) dX8_tire_25 rfl rfl ?_
      refine zf_iv (k := 125) (pc' := 30) (r := []) dX8_tire_27 rfl rfl rfl rfl (by decide) rfl rfl rfl (zr_125 (by omega) h) (zf_kI (fun x3 m4 h => ?_))
      exact zf_ri dX8_tire_30 rfl h
    · replace h := h.2 g
      refine zf_ld (pc' := 19) (v := .inl v2) dX8_tire_18 rfl (fun _ _ _ => rfl) rfl rfl rfl ?_
      refine zf_bi (v := 99) (pc' := 21) dX8_tire_19 rfl rfl ?_
      refine zf_icmp_le (tgt := 31) (pc' := 24) dX8_tire_21 rfl rfl (fun g => ?_) (fun g => ?_)
      · replace h := h.1 g
        refine zf_ld (pc' := 32) (v := .inr (.inr (1, 63))) dX8_tire_31 rfl (fun _ _ _ => rfl) rfl rfl rfl ?_
        refine zf_gfr (pc' := 35) (b := 69) dX8_tire_32 rfl rfl (by decide) rfl rfl ?_
        refine zf_ld (pc' := 36) (v := .inl v1) dX8_tire_35 rfl (fun _ _ _ => rfl) rfl rfl rfl ?_
        refine zf_ial (pc' := 37) dX8_tire_36 rfl (⟨by decide, rfl⟩ : zf_arr 69 6).1 (⟨by decide, rfl⟩ : zf_arr 69 6).2 h.1 rfl ?_
        replace h := h.2
        refine zf_st (pc' := 38) (L2 := [some (.inr (.inr (1, 63))), some (.inl v1), some (.inl v2), some (.inl (m2.1 69 (Int32.toInt v1).toNat))]) dX8_tire_37 rfl (fun _ _ _ => rfl) rfl rfl rfl rfl rfl rfl ?_
        refine zf_ld (pc' := 39) (v := .inr (.inr (1, 63))) dX8_tire_38 rfl (fun _ _ _ => rfl) rfl rfl rfl ?_
        refine zf_gfr (pc' := 42) (b := 69) dX8_tire_39 rfl rfl (by decide) rfl rfl ?_
        refine zf_ld (pc' := 43) (v := .inl v1) dX8_tire_42 rfl (fun _ _ _ => rfl) rfl rfl rfl ?_
        refine zf_ld (pc' := 44) (v := .inl v2) dX8_tire_43 rfl (fun _ _ _ => rfl) rfl rfl rfl ?_
        refine zf_ias (pc' := 45) dX8_tire_44 rfl (⟨by decide, rfl⟩ : zf_arr 69 6).1 (⟨by decide, rfl⟩ : zf_arr 69 6).2 h.1 rfl (fun m5 e6 => ?_)
        replace h := h.2 m5 e6
        refine zf_ld (pc' := 46) (v := .inl (m2.1 69 (Int32.toInt v1).toNat)) dX8_tire_45 rfl (fun _ _ _ => rfl) rfl rfl rfl ?_
        exact zf_ri dX8_tire_46 rfl h
      · replace h := h.2 g
        refine zf_ld (pc' := 25) (v := .inr (.inr (1, 63))) dX8_tire_24 rfl (fun _ _ _ => rfl) rfl rfl rfl ?_
        refine zf_bi (v := (-6)) (pc' := 27) dX8_tire_25 rfl rfl ?_
        refine zf_iv (k := 125) (pc' := 30) (r := []) dX8_tire_27 rfl rfl rfl rfl (by decide) rfl rfl rfl (zr_125 (by omega) h) (zf_kI (fun x7 m8 h => ?_))
        exact zf_ri dX8_tire_30 rfl h
  · replace h := h.2 g
    refine zf_ld (pc' := 9) (v := .inr (.inr (1, 63))) dX8_tire_8 rfl (fun _ _ _ => rfl) rfl rfl rfl ?_
    refine zf_ic (v := (-1)) (pc' := 10) dX8_tire_9 rfl rfl ?_
    refine zf_iv (k := 125) (pc' := 13) (r := []) dX8_tire_10 rfl rfl rfl rfl (by decide) rfl rfl rfl (zr_125 (by omega) h) (zf_kI (fun x9 m10 h => ?_))
    exact zf_ri dX8_tire_13 rfl h
def zt_152 : zx_MT := (8, yX8_bag, cX8_bag, 3, (some FieldType.int), 1, 0)
theorem zm_152 : zx_m 152 = zt_152 := rfl
theorem dX8_bag_r0 : zdcP cX8_bag 0 [(.iload_n 1, 1), (.iconst (-1), 1), (.if_icmp .eq 17, 3), (.aload_n 0, 1), (.iload_n 1, 1), (.invokevirtual 119, 3), (.ifCond .ne 9, 3), (.aload_n 0, 1), (.iconst (-1), 1), (.invokevirtual 142, 3), (.ireturn, 1), (.aload_n 0, 1), (.getfield 9, 3), (.istore_n 2, 1), (.aload_n 0, 1), (.iload_n 1, 1)] := zdcA_ok (by decide +kernel)
theorem dX8_bag_0 : decode cX8_bag 0 = .ok (.iload_n 1, 1) := dX8_bag_r0.1
theorem dX8_bag_1 : decode cX8_bag 1 = .ok (.iconst (-1), 1) := dX8_bag_r0.2.1
theorem dX8_bag_2 : decode cX8_bag 2 = .ok (.if_icmp .eq 17, 3) := dX8_bag_r0.2.2.1
theorem dX8_bag_5 : decode cX8_bag 5 = .ok (.aload_n 0, 1) := dX8_bag_r0.2.2.2.1
theorem dX8_bag_6 : decode cX8_bag 6 = .ok (.iload_n 1, 1) := dX8_bag_r0.2.2.2.2.1
theorem dX8_bag_7 : decode cX8_bag 7 = .ok (.invokevirtual 119, 3) := dX8_bag_r0.2.2.2.2.2.1
theorem dX8_bag_10 : decode cX8_bag 10 = .ok (.ifCond .ne 9, 3) := dX8_bag_r0.2.2.2.2.2.2.1
theorem dX8_bag_13 : decode cX8_bag 13 = .ok (.aload_n 0, 1) := dX8_bag_r0.2.2.2.2.2.2.2.1
theorem dX8_bag_14 : decode cX8_bag 14 = .ok (.iconst (-1), 1) := dX8_bag_r0.2.2.2.2.2.2.2.2.1
theorem dX8_bag_15 : decode cX8_bag 15 = .ok (.invokevirtual 142, 3) := dX8_bag_r0.2.2.2.2.2.2.2.2.2.1
theorem dX8_bag_18 : decode cX8_bag 18 = .ok (.ireturn, 1) := dX8_bag_r0.2.2.2.2.2.2.2.2.2.2.1
theorem dX8_bag_19 : decode cX8_bag 19 = .ok (.aload_n 0, 1) := dX8_bag_r0.2.2.2.2.2.2.2.2.2.2.2.1
theorem dX8_bag_20 : decode cX8_bag 20 = .ok (.getfield 9, 3) := dX8_bag_r0.2.2.2.2.2.2.2.2.2.2.2.2.1
theorem dX8_bag_23 : decode cX8_bag 23 = .ok (.istore_n 2, 1) := dX8_bag_r0.2.2.2.2.2.2.2.2.2.2.2.2.2.1
theorem dX8_bag_24 : decode cX8_bag 24 = .ok (.aload_n 0, 1) := dX8_bag_r0.2.2.2.2.2.2.2.2.2.2.2.2.2.2.1
theorem dX8_bag_25 : decode cX8_bag 25 = .ok (.iload_n 1, 1) := dX8_bag_r0.2.2.2.2.2.2.2.2.2.2.2.2.2.2.2.1
theorem dX8_bag_r26 : zdcP cX8_bag 26 [(.putfield 9, 3), (.iload_n 2, 1), (.ireturn, 1)] := zdcA_ok (by decide +kernel)
theorem dX8_bag_26 : decode cX8_bag 26 = .ok (.putfield 9, 3) := dX8_bag_r26.1
theorem dX8_bag_29 : decode cX8_bag 29 = .ok (.iload_n 2, 1) := dX8_bag_r26.2.1
theorem dX8_bag_30 : decode cX8_bag 30 = .ok (.ireturn, 1) := dX8_bag_r26.2.2.1
def wq_152_19 (v1 : Int32) (m : zf_Me) (Q : Int32 → zf_Me → Prop) : Prop := (∀ m1, m1 = zf_u m 63 2 v1 → Q (m.1 63 2) m1)
theorem zq_152_19 {d : Nat} (hd : 1 ≤ d) {v1 : Int32} {Q : Int32 → zf_Me → Prop} {m : zf_Me} (h : wq_152_19 v1 m Q) : zf_W none 0 0 d zt_152 19 [some (.inr (.inr (1, 63))), some (.inl v1), none] [] m (zf_I Q) := by
  unfold wq_152_19 at h
  refine zf_ld (pc' := 20) (v := .inr (.inr (1, 63))) dX8_bag_19 rfl (fun _ _ _ => rfl) rfl rfl rfl ?_
  refine zf_gfi (pc' := 23) dX8_bag_20 rfl rfl (by decide) rfl rfl ?_
  refine zf_st (pc' := 24) (L2 := [some (.inr (.inr (1, 63))), some (.inl v1), some (.inl (m.1 63 2))]) dX8_bag_23 rfl (fun _ _ _ => rfl) rfl rfl rfl rfl rfl rfl ?_
  refine zf_ld (pc' := 25) (v := .inr (.inr (1, 63))) dX8_bag_24 rfl (fun _ _ _ => rfl) rfl rfl rfl ?_
  refine zf_ld (pc' := 26) (v := .inl v1) dX8_bag_25 rfl (fun _ _ _ => rfl) rfl rfl rfl ?_
  refine zf_pf (pc' := 29) dX8_bag_26 rfl rfl (by decide) rfl rfl rfl (fun m1 e2 => ?_)
  replace h := h m1 e2
  refine zf_ld (pc' := 30) (v := .inl (m.1 63 2)) dX8_bag_29 rfl (fun _ _ _ => rfl) rfl rfl rfl ?_
  exact zf_ri dX8_bag_30 rfl h
def wp_152 (v1 : Int32) (m : zf_Me) (Q : Int32 → zf_Me → Prop) : Prop := ((v1.toInt = (-1) → wq_152_19 v1 m Q) ∧ (¬ v1.toInt = (-1) → wp_128 v1 m (fun b3 m4 => ((b3 = true → wq_152_19 v1 m4 Q) ∧ (b3 = false → wp_126 (-1) m4 (fun x5 m6 => Q x5 m6))))))
theorem zr_152 {d : Nat} (hd : 1 ≤ d) {v1 : Int32} {Q : Int32 → zf_Me → Prop} {m : zf_Me} (h : wp_152 v1 m Q) : zf_M d 152 [.inr (.inr (1, 63)), .inl v1] m (zf_I Q) := by
  obtain ⟨e, rfl⟩ : ∃ z, d = z + 1 := ⟨d - 1, by omega⟩
  unfold wp_152 at h
  refine zf_M_of (Nat.le_of_ble_eq_true rfl) zm_152 (L := [some (.inr (.inr (1, 63))), some (.inl v1), none]) rfl ?_
  refine zf_ld (pc' := 1) (v := .inl v1) dX8_bag_0 rfl (fun _ _ _ => rfl) rfl rfl rfl ?_
  refine zf_ic (v := (-1)) (pc' := 2) dX8_bag_1 rfl rfl ?_
  refine zf_icmp_eq (tgt := 19) (pc' := 5) dX8_bag_2 rfl rfl (fun g => ?_) (fun g => ?_)
  · replace h := h.1 g
    exact zf_lo (zq_152_19 (by omega) h) ⟨rfl, rfl, trivial⟩
  · replace h := h.2 g
    refine zf_ld (pc' := 6) (v := .inr (.inr (1, 63))) dX8_bag_5 rfl (fun _ _ _ => rfl) rfl rfl rfl ?_
    refine zf_ld (pc' := 7) (v := .inl v1) dX8_bag_6 rfl (fun _ _ _ => rfl) rfl rfl rfl ?_
    refine zf_iv (k := 128) (pc' := 10) (r := []) dX8_bag_7 rfl rfl rfl rfl (by decide) rfl rfl rfl (zr_128 (by omega) h) (zf_kB (fun b3 m4 h => ?_))
    refine zf_ib_ne (tgt := 19) (pc' := 13) dX8_bag_10 rfl rfl (fun g => ?_) (fun g => ?_)
    · replace h := h.1 g
      exact zf_lo (zq_152_19 (by omega) h) ⟨rfl, rfl, trivial⟩
    · replace h := h.2 g
      refine zf_ld (pc' := 14) (v := .inr (.inr (1, 63))) dX8_bag_13 rfl (fun _ _ _ => rfl) rfl rfl rfl ?_
      refine zf_ic (v := (-1)) (pc' := 15) dX8_bag_14 rfl rfl ?_
      refine zf_iv (k := 126) (pc' := 18) (r := []) dX8_bag_15 rfl rfl rfl rfl (by decide) rfl rfl rfl (zr_126 (by omega) h) (zf_kI (fun x5 m6 h => ?_))
      exact zf_ri dX8_bag_18 rfl h
def zt_153 : zx_MT := (8, yX8_wrong, cX8_wrong, 2, (some FieldType.boolean), 1, 0)
theorem zm_153 : zx_m 153 = zt_153 := rfl
theorem dX8_wrong_r0 : zdcP cX8_wrong 0 [(.aload_n 0, 1), (.iload_n 1, 1), (.putfield 159, 3), (.iconst 0, 1), (.ireturn, 1)] := zdcA_ok (by decide +kernel)
theorem dX8_wrong_0 : decode cX8_wrong 0 = .ok (.aload_n 0, 1) := dX8_wrong_r0.1
theorem dX8_wrong_1 : decode cX8_wrong 1 = .ok (.iload_n 1, 1) := dX8_wrong_r0.2.1
theorem dX8_wrong_2 : decode cX8_wrong 2 = .ok (.putfield 159, 3) := dX8_wrong_r0.2.2.1
theorem dX8_wrong_5 : decode cX8_wrong 5 = .ok (.iconst 0, 1) := dX8_wrong_r0.2.2.2.1
theorem dX8_wrong_6 : decode cX8_wrong 6 = .ok (.ireturn, 1) := dX8_wrong_r0.2.2.2.2.1
def wp_153 (v1 : Int32) (m : zf_Me) (Q : Bool → zf_Me → Prop) : Prop := (∀ m1, m1 = zf_u m 63 33 v1 → Q false m1)
theorem zr_153 {d : Nat} (hd : 0 ≤ d) {v1 : Int32} {Q : Bool → zf_Me → Prop} {m : zf_Me} (h : wp_153 v1 m Q) : zf_M d 153 [.inr (.inr (1, 63)), .inl v1] m (zf_B Q) := by
  unfold wp_153 at h
  refine zf_M_of (Nat.le_of_ble_eq_true rfl) zm_153 (L := [some (.inr (.inr (1, 63))), some (.inl v1)]) rfl ?_
  refine zf_ld (pc' := 1) (v := .inr (.inr (1, 63))) dX8_wrong_0 rfl (fun _ _ _ => rfl) rfl rfl rfl ?_
  refine zf_ld (pc' := 2) (v := .inl v1) dX8_wrong_1 rfl (fun _ _ _ => rfl) rfl rfl rfl ?_
  refine zf_pf (pc' := 5) dX8_wrong_2 rfl rfl (by decide) rfl rfl rfl (fun m1 e2 => ?_)
  replace h := h m1 e2
  refine zf_ic (v := 0) (pc' := 6) dX8_wrong_5 rfl rfl ?_
  exact zf_rb (b := false) dX8_wrong_6 rfl h
def zt_154 : zx_MT := (8, yX8_stands, cX8_stands, 4, (some FieldType.boolean), 1, 0)
theorem zm_154 : zx_m 154 = zt_154 := rfl
theorem dX8_stands_r0 : zdcP cX8_stands 0 [(.iconst 0, 1), (.istore_n 2, 1), (.iconst 0, 1), (.istore_n 3, 1), (.iload_n 3, 1), (.iload_n 1, 1), (.if_icmp .ge 26, 3), (.iload_n 3, 1), (.aload_n 0, 1), (.getfield 75, 3), (.iload_n 2, 1), (.iaload, 1), (.ifCond .ne 7, 3), (.iconst 1, 1), (.goto 4, 3), (.iconst 0, 1)] := zdcA_ok (by decide +kernel)
theorem dX8_stands_0 : decode cX8_stands 0 = .ok (.iconst 0, 1) := dX8_stands_r0.1
theorem dX8_stands_1 : decode cX8_stands 1 = .ok (.istore_n 2, 1) := dX8_stands_r0.2.1
theorem dX8_stands_2 : decode cX8_stands 2 = .ok (.iconst 0, 1) := dX8_stands_r0.2.2.1
theorem dX8_stands_3 : decode cX8_stands 3 = .ok (.istore_n 3, 1) := dX8_stands_r0.2.2.2.1
theorem dX8_stands_4 : decode cX8_stands 4 = .ok (.iload_n 3, 1) := dX8_stands_r0.2.2.2.2.1
theorem dX8_stands_5 : decode cX8_stands 5 = .ok (.iload_n 1, 1) := dX8_stands_r0.2.2.2.2.2.1
theorem dX8_stands_6 : decode cX8_stands 6 = .ok (.if_icmp .ge 26, 3) := dX8_stands_r0.2.2.2.2.2.2.1
theorem dX8_stands_9 : decode cX8_stands 9 = .ok (.iload_n 3, 1) := dX8_stands_r0.2.2.2.2.2.2.2.1
theorem dX8_stands_10 : decode cX8_stands 10 = .ok (.aload_n 0, 1) := dX8_stands_r0.2.2.2.2.2.2.2.2.1
theorem dX8_stands_11 : decode cX8_stands 11 = .ok (.getfield 75, 3) := dX8_stands_r0.2.2.2.2.2.2.2.2.2.1
theorem dX8_stands_14 : decode cX8_stands 14 = .ok (.iload_n 2, 1) := dX8_stands_r0.2.2.2.2.2.2.2.2.2.2.1
theorem dX8_stands_15 : decode cX8_stands 15 = .ok (.iaload, 1) := dX8_stands_r0.2.2.2.2.2.2.2.2.2.2.2.1
theorem dX8_stands_16 : decode cX8_stands 16 = .ok (.ifCond .ne 7, 3) := dX8_stands_r0.2.2.2.2.2.2.2.2.2.2.2.2.1
theorem dX8_stands_19 : decode cX8_stands 19 = .ok (.iconst 1, 1) := dX8_stands_r0.2.2.2.2.2.2.2.2.2.2.2.2.2.1
theorem dX8_stands_20 : decode cX8_stands 20 = .ok (.goto 4, 3) := dX8_stands_r0.2.2.2.2.2.2.2.2.2.2.2.2.2.2.1
theorem dX8_stands_23 : decode cX8_stands 23 = .ok (.iconst 0, 1) := dX8_stands_r0.2.2.2.2.2.2.2.2.2.2.2.2.2.2.2.1
theorem dX8_stands_r24 : zdcP cX8_stands 24 [(.iadd, 1), (.istore_n 3, 1), (.iinc 2 1, 3), (.goto (-25), 3), (.aload_n 0, 1), (.getfield 162, 3), (.istore_n 3, 1), (.aload_n 0, 1), (.getfield 75, 3), (.iload_n 2, 1), (.iaload, 1), (.bipush 32, 2), (.if_icmp .le 41, 3), (.iload_n 3, 1), (.aload_n 0, 1), (.getfield 165, 3)] := zdcA_ok (by decide +kernel)
theorem dX8_stands_24 : decode cX8_stands 24 = .ok (.iadd, 1) := dX8_stands_r24.1
theorem dX8_stands_25 : decode cX8_stands 25 = .ok (.istore_n 3, 1) := dX8_stands_r24.2.1
theorem dX8_stands_26 : decode cX8_stands 26 = .ok (.iinc 2 1, 3) := dX8_stands_r24.2.2.1
theorem dX8_stands_29 : decode cX8_stands 29 = .ok (.goto (-25), 3) := dX8_stands_r24.2.2.2.1
theorem dX8_stands_32 : decode cX8_stands 32 = .ok (.aload_n 0, 1) := dX8_stands_r24.2.2.2.2.1
theorem dX8_stands_33 : decode cX8_stands 33 = .ok (.getfield 162, 3) := dX8_stands_r24.2.2.2.2.2.1
theorem dX8_stands_36 : decode cX8_stands 36 = .ok (.istore_n 3, 1) := dX8_stands_r24.2.2.2.2.2.2.1
theorem dX8_stands_37 : decode cX8_stands 37 = .ok (.aload_n 0, 1) := dX8_stands_r24.2.2.2.2.2.2.2.1
theorem dX8_stands_38 : decode cX8_stands 38 = .ok (.getfield 75, 3) := dX8_stands_r24.2.2.2.2.2.2.2.2.1
theorem dX8_stands_41 : decode cX8_stands 41 = .ok (.iload_n 2, 1) := dX8_stands_r24.2.2.2.2.2.2.2.2.2.1
theorem dX8_stands_42 : decode cX8_stands 42 = .ok (.iaload, 1) := dX8_stands_r24.2.2.2.2.2.2.2.2.2.2.1
theorem dX8_stands_43 : decode cX8_stands 43 = .ok (.bipush 32, 2) := dX8_stands_r24.2.2.2.2.2.2.2.2.2.2.2.1
theorem dX8_stands_45 : decode cX8_stands 45 = .ok (.if_icmp .le 41, 3) := dX8_stands_r24.2.2.2.2.2.2.2.2.2.2.2.2.1
theorem dX8_stands_48 : decode cX8_stands 48 = .ok (.iload_n 3, 1) := dX8_stands_r24.2.2.2.2.2.2.2.2.2.2.2.2.2.1
theorem dX8_stands_49 : decode cX8_stands 49 = .ok (.aload_n 0, 1) := dX8_stands_r24.2.2.2.2.2.2.2.2.2.2.2.2.2.2.1
theorem dX8_stands_50 : decode cX8_stands 50 = .ok (.getfield 165, 3) := dX8_stands_r24.2.2.2.2.2.2.2.2.2.2.2.2.2.2.2.1
theorem dX8_stands_r53 : zdcP cX8_stands 53 [(.if_icmp .ge 33, 3), (.aload_n 0, 1), (.getfield 68, 3), (.aload_n 0, 1), (.getfield 168, 3), (.iload_n 3, 1), (.iadd, 1), (.laload, 1), (.l2i, 1), (.aload_n 0, 1), (.getfield 75, 3), (.iload_n 2, 1), (.iaload, 1), (.if_icmp .ne 12, 3), (.iinc 3 1, 3), (.iinc 2 1, 3)] := zdcA_ok (by decide +kernel)
theorem dX8_stands_53 : decode cX8_stands 53 = .ok (.if_icmp .ge 33, 3) := dX8_stands_r53.1
theorem dX8_stands_56 : decode cX8_stands 56 = .ok (.aload_n 0, 1) := dX8_stands_r53.2.1
theorem dX8_stands_57 : decode cX8_stands 57 = .ok (.getfield 68, 3) := dX8_stands_r53.2.2.1
theorem dX8_stands_60 : decode cX8_stands 60 = .ok (.aload_n 0, 1) := dX8_stands_r53.2.2.2.1
theorem dX8_stands_61 : decode cX8_stands 61 = .ok (.getfield 168, 3) := dX8_stands_r53.2.2.2.2.1
theorem dX8_stands_64 : decode cX8_stands 64 = .ok (.iload_n 3, 1) := dX8_stands_r53.2.2.2.2.2.1
theorem dX8_stands_65 : decode cX8_stands 65 = .ok (.iadd, 1) := dX8_stands_r53.2.2.2.2.2.2.1
theorem dX8_stands_66 : decode cX8_stands 66 = .ok (.laload, 1) := dX8_stands_r53.2.2.2.2.2.2.2.1
theorem dX8_stands_67 : decode cX8_stands 67 = .ok (.l2i, 1) := dX8_stands_r53.2.2.2.2.2.2.2.2.1
theorem dX8_stands_68 : decode cX8_stands 68 = .ok (.aload_n 0, 1) := dX8_stands_r53.2.2.2.2.2.2.2.2.2.1
theorem dX8_stands_69 : decode cX8_stands 69 = .ok (.getfield 75, 3) := dX8_stands_r53.2.2.2.2.2.2.2.2.2.2.1
theorem dX8_stands_72 : decode cX8_stands 72 = .ok (.iload_n 2, 1) := dX8_stands_r53.2.2.2.2.2.2.2.2.2.2.2.1
theorem dX8_stands_73 : decode cX8_stands 73 = .ok (.iaload, 1) := dX8_stands_r53.2.2.2.2.2.2.2.2.2.2.2.2.1
theorem dX8_stands_74 : decode cX8_stands 74 = .ok (.if_icmp .ne 12, 3) := dX8_stands_r53.2.2.2.2.2.2.2.2.2.2.2.2.2.1
theorem dX8_stands_77 : decode cX8_stands 77 = .ok (.iinc 3 1, 3) := dX8_stands_r53.2.2.2.2.2.2.2.2.2.2.2.2.2.2.1
theorem dX8_stands_80 : decode cX8_stands 80 = .ok (.iinc 2 1, 3) := dX8_stands_r53.2.2.2.2.2.2.2.2.2.2.2.2.2.2.2.1
theorem dX8_stands_r83 : zdcP cX8_stands 83 [(.goto (-46), 3), (.aload_n 0, 1), (.getfield 75, 3), (.iload_n 2, 1), (.iaload, 1), (.bipush 32, 2), (.if_icmp .gt 7, 3), (.iconst 1, 1), (.goto 4, 3), (.iconst 0, 1), (.ireturn, 1)] := zdcA_ok (by decide +kernel)
theorem dX8_stands_83 : decode cX8_stands 83 = .ok (.goto (-46), 3) := dX8_stands_r83.1
theorem dX8_stands_86 : decode cX8_stands 86 = .ok (.aload_n 0, 1) := dX8_stands_r83.2.1
theorem dX8_stands_87 : decode cX8_stands 87 = .ok (.getfield 75, 3) := dX8_stands_r83.2.2.1
theorem dX8_stands_90 : decode cX8_stands 90 = .ok (.iload_n 2, 1) := dX8_stands_r83.2.2.2.1
theorem dX8_stands_91 : decode cX8_stands 91 = .ok (.iaload, 1) := dX8_stands_r83.2.2.2.2.1
theorem dX8_stands_92 : decode cX8_stands 92 = .ok (.bipush 32, 2) := dX8_stands_r83.2.2.2.2.2.1
theorem dX8_stands_94 : decode cX8_stands 94 = .ok (.if_icmp .gt 7, 3) := dX8_stands_r83.2.2.2.2.2.2.1
theorem dX8_stands_97 : decode cX8_stands 97 = .ok (.iconst 1, 1) := dX8_stands_r83.2.2.2.2.2.2.2.1
theorem dX8_stands_98 : decode cX8_stands 98 = .ok (.goto 4, 3) := dX8_stands_r83.2.2.2.2.2.2.2.2.1
theorem dX8_stands_101 : decode cX8_stands 101 = .ok (.iconst 0, 1) := dX8_stands_r83.2.2.2.2.2.2.2.2.2.1
theorem dX8_stands_102 : decode cX8_stands 102 = .ok (.ireturn, 1) := dX8_stands_r83.2.2.2.2.2.2.2.2.2.2.1
def wq_154_86 (v1 : Int32) (v2 : Int32) (m : zf_Me) (Q : Bool → zf_Me → Prop) : Prop := ((0 ≤ (Int32.toInt v2) ∧ (Int32.toInt v2) < (75 : Int)) ∧ ((((m.1 76 (Int32.toInt v2).toNat)).toInt > 32 → Q false m) ∧ (((m.1 76 (Int32.toInt v2).toNat)).toInt ≤ 32 → Q true m)))
theorem zq_154_86 {d : Nat} (hd : 0 ≤ d) {v1 : Int32} {Q : Bool → zf_Me → Prop} {v2 : Int32} {m : zf_Me} (h : wq_154_86 v1 v2 m Q) : zf_W none 0 0 d zt_154 86 [some (.inr (.inr (1, 63))), none, some (.inl v2), none] [] m (zf_B Q) := by
  unfold wq_154_86 at h
  refine zf_ld (pc' := 87) (v := .inr (.inr (1, 63))) dX8_stands_86 rfl (fun _ _ _ => rfl) rfl rfl rfl ?_
  refine zf_gfr (pc' := 90) (b := 76) dX8_stands_87 rfl rfl (by decide) rfl rfl ?_
  refine zf_ld (pc' := 91) (v := .inl v2) dX8_stands_90 rfl (fun _ _ _ => rfl) rfl rfl rfl ?_
  refine zf_ial (pc' := 92) dX8_stands_91 rfl (⟨by decide, rfl⟩ : zf_arr 76 75).1 (⟨by decide, rfl⟩ : zf_arr 76 75).2 h.1 rfl ?_
  replace h := h.2
  refine zf_bi (v := 32) (pc' := 94) dX8_stands_92 rfl rfl ?_
  refine zf_icmp_gt (tgt := 101) (pc' := 97) dX8_stands_94 rfl rfl (fun g => ?_) (fun g => ?_)
  · replace h := h.1 g
    refine zf_ic (v := 0) (pc' := 102) dX8_stands_101 rfl rfl ?_
    exact zf_rb (b := false) dX8_stands_102 rfl h
  · replace h := h.2 g
    refine zf_ic (v := 1) (pc' := 98) dX8_stands_97 rfl rfl ?_
    refine zf_goto (tgt := 102) dX8_stands_98 rfl ?_
    exact zf_rb (b := true) dX8_stands_102 rfl h
def wq_154_37 (v1 : Int32) (Q : Bool → zf_Me → Prop) : Nat → Int32 → Int32 → zf_Me → Prop
  | 0, _, _, _ => False
  | n + 1, v2, v3, m => ((0 ≤ (Int32.toInt v2) ∧ (Int32.toInt v2) < (75 : Int)) ∧ ((((m.1 76 (Int32.toInt v2).toNat)).toInt ≤ 32 → wq_154_86 v1 v2 m Q) ∧ (((m.1 76 (Int32.toInt v2).toNat)).toInt > 32 → ((v3.toInt ≥ ((m.1 63 31)).toInt → wq_154_86 v1 v2 m Q) ∧ (v3.toInt < ((m.1 63 31)).toInt → ((0 ≤ (Int32.toInt ((m.1 63 29) + v3)) ∧ (Int32.toInt ((m.1 63 29) + v3)) < (1280 : Int)) ∧ ((0 ≤ (Int32.toInt v2) ∧ (Int32.toInt v2) < (75 : Int)) ∧ ((¬ ((Int64.toInt32 (m.2 74 (Int32.toInt ((m.1 63 29) + v3)).toNat))).toInt = ((m.1 76 (Int32.toInt v2).toNat)).toInt → wq_154_86 v1 v2 m Q) ∧ (((Int64.toInt32 (m.2 74 (Int32.toInt ((m.1 63 29) + v3)).toNat))).toInt = ((m.1 76 (Int32.toInt v2).toNat)).toInt → wq_154_37 v1 Q n (v2 + 1) (v3 + 1) m)))))))))
theorem zq_154_37 {d : Nat} (hd : 0 ≤ d) {v1 : Int32} {Q : Bool → zf_Me → Prop} : ∀ (n : Nat) (v2 : Int32) (v3 : Int32) (m : zf_Me), wq_154_37 v1 Q n v2 v3 m → zf_W none 0 0 d zt_154 37 [some (.inr (.inr (1, 63))), none, some (.inl v2), some (.inl v3)] [] m (zf_B Q) := by
  intro n
  induction n with
  | zero =>
    intro v2 v3 m h
    exact h.elim
  | succ n ih =>
    intro v2 v3 m h
    unfold wq_154_37 at h
    refine zf_ld (pc' := 38) (v := .inr (.inr (1, 63))) dX8_stands_37 rfl (fun _ _ _ => rfl) rfl rfl rfl ?_
    refine zf_gfr (pc' := 41) (b := 76) dX8_stands_38 rfl rfl (by decide) rfl rfl ?_
    refine zf_ld (pc' := 42) (v := .inl v2) dX8_stands_41 rfl (fun _ _ _ => rfl) rfl rfl rfl ?_
    refine zf_ial (pc' := 43) dX8_stands_42 rfl (⟨by decide, rfl⟩ : zf_arr 76 75).1 (⟨by decide, rfl⟩ : zf_arr 76 75).2 h.1 rfl ?_
    replace h := h.2
    refine zf_bi (v := 32) (pc' := 45) dX8_stands_43 rfl rfl ?_
    refine zf_icmp_le (tgt := 86) (pc' := 48) dX8_stands_45 rfl rfl (fun g => ?_) (fun g => ?_)
    · replace h := h.1 g
      exact zf_lo (zq_154_86 (by omega) h) ⟨rfl, rfl, trivial⟩
    · replace h := h.2 g
      refine zf_ld (pc' := 49) (v := .inl v3) dX8_stands_48 rfl (fun _ _ _ => rfl) rfl rfl rfl ?_
      refine zf_ld (pc' := 50) (v := .inr (.inr (1, 63))) dX8_stands_49 rfl (fun _ _ _ => rfl) rfl rfl rfl ?_
      refine zf_gfi (pc' := 53) dX8_stands_50 rfl rfl (by decide) rfl rfl ?_
      refine zf_icmp_ge (tgt := 86) (pc' := 56) dX8_stands_53 rfl rfl (fun g => ?_) (fun g => ?_)
      · replace h := h.1 g
        exact zf_lo (zq_154_86 (by omega) h) ⟨rfl, rfl, trivial⟩
      · replace h := h.2 g
        refine zf_ld (pc' := 57) (v := .inr (.inr (1, 63))) dX8_stands_56 rfl (fun _ _ _ => rfl) rfl rfl rfl ?_
        refine zf_gfr (pc' := 60) (b := 74) dX8_stands_57 rfl rfl (by decide) rfl rfl ?_
        refine zf_ld (pc' := 61) (v := .inr (.inr (1, 63))) dX8_stands_60 rfl (fun _ _ _ => rfl) rfl rfl rfl ?_
        refine zf_gfi (pc' := 64) dX8_stands_61 rfl rfl (by decide) rfl rfl ?_
        refine zf_ld (pc' := 65) (v := .inl v3) dX8_stands_64 rfl (fun _ _ _ => rfl) rfl rfl rfl ?_
        refine zf_in (pc' := 66) (S' := [.inl ((m.1 63 29) + v3), .inr (.inr (1, 74))]) dX8_stands_65 rfl (fun _ _ _ => rfl) ?_
        refine zf_lal (pc' := 67) dX8_stands_66 rfl (⟨by decide, rfl⟩ : zf_larr 74 1280).1 (⟨by decide, rfl⟩ : zf_larr 74 1280).2 h.1 rfl ?_
        replace h := h.2
        refine zf_in (pc' := 68) (S' := [.inl (Int64.toInt32 (m.2 74 (Int32.toInt ((m.1 63 29) + v3)).toNat))]) dX8_stands_67 rfl (fun _ _ _ => rfl) ?_
        refine zf_ld (pc' := 69) (v := .inr (.inr (1, 63))) dX8_stands_68 rfl (fun _ _ _ => rfl) rfl rfl rfl ?_
        refine zf_gfr (pc' := 72) (b := 76) dX8_stands_69 rfl rfl (by decide) rfl rfl ?_
        refine zf_ld (pc' := 73) (v := .inl v2) dX8_stands_72 rfl (fun _ _ _ => rfl) rfl rfl rfl ?_
        refine zf_ial (pc' := 74) dX8_stands_73 rfl (⟨by decide, rfl⟩ : zf_arr 76 75).1 (⟨by decide, rfl⟩ : zf_arr 76 75).2 h.1 rfl ?_
        replace h := h.2
        refine zf_icmp_ne (tgt := 86) (pc' := 77) dX8_stands_74 rfl rfl (fun g => ?_) (fun g => ?_)
        · replace h := h.1 g
          exact zf_lo (zq_154_86 (by omega) h) ⟨rfl, rfl, trivial⟩
        · replace h := h.2 g
          refine zf_ii (y := (v3 + 1)) (L2 := [some (.inr (.inr (1, 63))), none, some (.inl v2), some (.inl (v3 + 1))]) (pc' := 80) dX8_stands_77 rfl rfl rfl rfl rfl ?_
          refine zf_ii (y := (v2 + 1)) (L2 := [some (.inr (.inr (1, 63))), none, some (.inl (v2 + 1)), some (.inl (v3 + 1))]) (pc' := 83) dX8_stands_80 rfl rfl rfl rfl rfl ?_
          refine zf_goto (tgt := 37) dX8_stands_83 rfl ?_
          exact zf_lo (ih _ _ _ h) ⟨rfl, rfl, rfl, trivial⟩
def wq_154_4 (v1 : Int32) (Q : Bool → zf_Me → Prop) : Nat → Int32 → Int32 → zf_Me → Prop
  | 0, _, _, _ => False
  | n + 1, v2, v3, m => ((v3.toInt ≥ v1.toInt → (∃ n37, wq_154_37 v1 Q n37 v2 (m.1 63 30) m)) ∧ (v3.toInt < v1.toInt → ((0 ≤ (Int32.toInt v2) ∧ (Int32.toInt v2) < (75 : Int)) ∧ ((¬ ((m.1 76 (Int32.toInt v2).toNat)).toInt = 0 → wq_154_4 v1 Q n (v2 + 1) (v3 + 0) m) ∧ (((m.1 76 (Int32.toInt v2).toNat)).toInt = 0 → wq_154_4 v1 Q n (v2 + 1) (v3 + 1) m)))))
theorem zq_154_4 {d : Nat} (hd : 0 ≤ d) {v1 : Int32} {Q : Bool → zf_Me → Prop} : ∀ (n : Nat) (v2 : Int32) (v3 : Int32) (m : zf_Me), wq_154_4 v1 Q n v2 v3 m → zf_W none 0 0 d zt_154 4 [some (.inr (.inr (1, 63))), some (.inl v1), some (.inl v2), some (.inl v3)] [] m (zf_B Q) := by
  intro n
  induction n with
  | zero =>
    intro v2 v3 m h
    exact h.elim
  | succ n ih =>
    intro v2 v3 m h
    unfold wq_154_4 at h
    refine zf_ld (pc' := 5) (v := .inl v3) dX8_stands_4 rfl (fun _ _ _ => rfl) rfl rfl rfl ?_
    refine zf_ld (pc' := 6) (v := .inl v1) dX8_stands_5 rfl (fun _ _ _ => rfl) rfl rfl rfl ?_
    refine zf_icmp_ge (tgt := 32) (pc' := 9) dX8_stands_6 rfl rfl (fun g => ?_) (fun g => ?_)
    · replace h := h.1 g
      refine zf_ld (pc' := 33) (v := .inr (.inr (1, 63))) dX8_stands_32 rfl (fun _ _ _ => rfl) rfl rfl rfl ?_
      refine zf_gfi (pc' := 36) dX8_stands_33 rfl rfl (by decide) rfl rfl ?_
      refine zf_st (pc' := 37) (L2 := [some (.inr (.inr (1, 63))), some (.inl v1), some (.inl v2), some (.inl (m.1 63 30))]) dX8_stands_36 rfl (fun _ _ _ => rfl) rfl rfl rfl rfl rfl rfl ?_
      obtain ⟨n37, h⟩ := h
      exact zf_lo (zq_154_37 (by omega) n37 _ _ _ h) ⟨rfl, rfl, rfl, trivial⟩
    · replace h := h.2 g
      refine zf_ld (pc' := 10) (v := .inl v3) dX8_stands_9 rfl (fun _ _ _ => rfl) rfl rfl rfl ?_
      refine zf_ld (pc' := 11) (v := .inr (.inr (1, 63))) dX8_stands_10 rfl (fun _ _ _ => rfl) rfl rfl rfl ?_
      refine zf_gfr (pc' := 14) (b := 76) dX8_stands_11 rfl rfl (by decide) rfl rfl ?_
      refine zf_ld (pc' := 15) (v := .inl v2) dX8_stands_14 rfl (fun _ _ _ => rfl) rfl rfl rfl ?_
      refine zf_ial (pc' := 16) dX8_stands_15 rfl (⟨by decide, rfl⟩ : zf_arr 76 75).1 (⟨by decide, rfl⟩ : zf_arr 76 75).2 h.1 rfl ?_
      replace h := h.2
      refine zf_if_ne (tgt := 23) (pc' := 19) dX8_stands_16 rfl rfl (fun g => ?_) (fun g => ?_)
      · replace h := h.1 g
        refine zf_ic (v := 0) (pc' := 24) dX8_stands_23 rfl rfl ?_
        refine zf_in (pc' := 25) (S' := [.inl (v3 + 0)]) dX8_stands_24 rfl (fun _ _ _ => rfl) ?_
        refine zf_st (pc' := 26) (L2 := [some (.inr (.inr (1, 63))), some (.inl v1), some (.inl v2), some (.inl (v3 + 0))]) dX8_stands_25 rfl (fun _ _ _ => rfl) rfl rfl rfl rfl rfl rfl ?_
        refine zf_ii (y := (v2 + 1)) (L2 := [some (.inr (.inr (1, 63))), some (.inl v1), some (.inl (v2 + 1)), some (.inl (v3 + 0))]) (pc' := 29) dX8_stands_26 rfl rfl rfl rfl rfl ?_
        refine zf_goto (tgt := 4) dX8_stands_29 rfl ?_
        exact zf_lo (ih _ _ _ h) ⟨rfl, rfl, rfl, rfl, trivial⟩
      · replace h := h.2 g
        refine zf_ic (v := 1) (pc' := 20) dX8_stands_19 rfl rfl ?_
        refine zf_goto (tgt := 24) dX8_stands_20 rfl ?_
        refine zf_in (pc' := 25) (S' := [.inl (v3 + 1)]) dX8_stands_24 rfl (fun _ _ _ => rfl) ?_
        refine zf_st (pc' := 26) (L2 := [some (.inr (.inr (1, 63))), some (.inl v1), some (.inl v2), some (.inl (v3 + 1))]) dX8_stands_25 rfl (fun _ _ _ => rfl) rfl rfl rfl rfl rfl rfl ?_
        refine zf_ii (y := (v2 + 1)) (L2 := [some (.inr (.inr (1, 63))), some (.inl v1), some (.inl (v2 + 1)), some (.inl (v3 + 1))]) (pc' := 29) dX8_stands_26 rfl rfl rfl rfl rfl ?_
        refine zf_goto (tgt := 4) dX8_stands_29 rfl ?_
        exact zf_lo (ih _ _ _ h) ⟨rfl, rfl, rfl, rfl, trivial⟩
def wp_154 (v1 : Int32) (m : zf_Me) (Q : Bool → zf_Me → Prop) : Prop := (∃ n4, wq_154_4 v1 Q n4 0 0 m)
theorem zr_154 {d : Nat} (hd : 0 ≤ d) {v1 : Int32} {Q : Bool → zf_Me → Prop} {m : zf_Me} (h : wp_154 v1 m Q) : zf_M d 154 [.inr (.inr (1, 63)), .inl v1] m (zf_B Q) := by
  unfold wp_154 at h
  refine zf_M_of (Nat.le_of_ble_eq_true rfl) zm_154 (L := [some (.inr (.inr (1, 63))), some (.inl v1), none, none]) rfl ?_
  refine zf_ic (v := 0) (pc' := 1) dX8_stands_0 rfl rfl ?_
  refine zf_st (pc' := 2) (L2 := [some (.inr (.inr (1, 63))), some (.inl v1), some (.inl 0), none]) dX8_stands_1 rfl (fun _ _ _ => rfl) rfl rfl rfl rfl rfl rfl ?_
  refine zf_ic (v := 0) (pc' := 3) dX8_stands_2 rfl rfl ?_
  refine zf_st (pc' := 4) (L2 := [some (.inr (.inr (1, 63))), some (.inl v1), some (.inl 0), some (.inl 0)]) dX8_stands_3 rfl (fun _ _ _ => rfl) rfl rfl rfl rfl rfl rfl ?_
  obtain ⟨n4, h⟩ := h
  exact zf_lo (zq_154_4 (by omega) n4 _ _ _ h) ⟨rfl, rfl, rfl, rfl, trivial⟩
def zt_155 : zx_MT := (8, yX8_word, cX8_word, 6, (some FieldType.int), 0, 0)
theorem zm_155 : zx_m 155 = zt_155 := rfl
theorem dX8_word_r0 : zdcP cX8_word 0 [(.iconst 0, 1), (.istore_n 1, 1), (.aload_n 0, 1), (.getfield 162, 3), (.istore_n 2, 1), (.iconst 0, 1), (.istore_n 3, 1), (.iload_n 3, 1), (.bipush 12, 2), (.if_icmp .ge 118, 3), (.aload_n 0, 1), (.getfield 162, 3), (.istore 4, 2), (.iload_n 1, 1), (.istore 5, 2), (.aload_n 0, 1)] := zdcA_ok (by decide +kernel)
theorem dX8_word_0 : decode cX8_word 0 = .ok (.iconst 0, 1) := dX8_word_r0.1
theorem dX8_word_1 : decode cX8_word 1 = .ok (.istore_n 1, 1) := dX8_word_r0.2.1
theorem dX8_word_2 : decode cX8_word 2 = .ok (.aload_n 0, 1) := dX8_word_r0.2.2.1
theorem dX8_word_3 : decode cX8_word 3 = .ok (.getfield 162, 3) := dX8_word_r0.2.2.2.1
theorem dX8_word_6 : decode cX8_word 6 = .ok (.istore_n 2, 1) := dX8_word_r0.2.2.2.2.1
theorem dX8_word_7 : decode cX8_word 7 = .ok (.iconst 0, 1) := dX8_word_r0.2.2.2.2.2.1
theorem dX8_word_8 : decode cX8_word 8 = .ok (.istore_n 3, 1) := dX8_word_r0.2.2.2.2.2.2.1
theorem dX8_word_9 : decode cX8_word 9 = .ok (.iload_n 3, 1) := dX8_word_r0.2.2.2.2.2.2.2.1
theorem dX8_word_10 : decode cX8_word 10 = .ok (.bipush 12, 2) := dX8_word_r0.2.2.2.2.2.2.2.2.1
theorem dX8_word_12 : decode cX8_word 12 = .ok (.if_icmp .ge 118, 3) := dX8_word_r0.2.2.2.2.2.2.2.2.2.1
theorem dX8_word_15 : decode cX8_word 15 = .ok (.aload_n 0, 1) := dX8_word_r0.2.2.2.2.2.2.2.2.2.2.1
theorem dX8_word_16 : decode cX8_word 16 = .ok (.getfield 162, 3) := dX8_word_r0.2.2.2.2.2.2.2.2.2.2.2.1
theorem dX8_word_19 : decode cX8_word 19 = .ok (.istore 4, 2) := dX8_word_r0.2.2.2.2.2.2.2.2.2.2.2.2.1
theorem dX8_word_21 : decode cX8_word 21 = .ok (.iload_n 1, 1) := dX8_word_r0.2.2.2.2.2.2.2.2.2.2.2.2.2.1
theorem dX8_word_22 : decode cX8_word 22 = .ok (.istore 5, 2) := dX8_word_r0.2.2.2.2.2.2.2.2.2.2.2.2.2.2.1
theorem dX8_word_24 : decode cX8_word 24 = .ok (.aload_n 0, 1) := dX8_word_r0.2.2.2.2.2.2.2.2.2.2.2.2.2.2.2.1
theorem dX8_word_r25 : zdcP cX8_word 25 [(.getfield 75, 3), (.iload 5, 2), (.iaload, 1), (.ifCond .eq 44, 3), (.iload 4, 2), (.aload_n 0, 1), (.getfield 165, 3), (.if_icmp .ge 35, 3), (.aload_n 0, 1), (.getfield 68, 3), (.aload_n 0, 1), (.getfield 168, 3), (.iload 4, 2), (.iadd, 1), (.laload, 1), (.l2i, 1)] := zdcA_ok (by decide +kernel)
theorem dX8_word_25 : decode cX8_word 25 = .ok (.getfield 75, 3) := dX8_word_r25.1
theorem dX8_word_28 : decode cX8_word 28 = .ok (.iload 5, 2) := dX8_word_r25.2.1
theorem dX8_word_30 : decode cX8_word 30 = .ok (.iaload, 1) := dX8_word_r25.2.2.1
theorem dX8_word_31 : decode cX8_word 31 = .ok (.ifCond .eq 44, 3) := dX8_word_r25.2.2.2.1
theorem dX8_word_34 : decode cX8_word 34 = .ok (.iload 4, 2) := dX8_word_r25.2.2.2.2.1
theorem dX8_word_36 : decode cX8_word 36 = .ok (.aload_n 0, 1) := dX8_word_r25.2.2.2.2.2.1
theorem dX8_word_37 : decode cX8_word 37 = .ok (.getfield 165, 3) := dX8_word_r25.2.2.2.2.2.2.1
theorem dX8_word_40 : decode cX8_word 40 = .ok (.if_icmp .ge 35, 3) := dX8_word_r25.2.2.2.2.2.2.2.1
theorem dX8_word_43 : decode cX8_word 43 = .ok (.aload_n 0, 1) := dX8_word_r25.2.2.2.2.2.2.2.2.1
theorem dX8_word_44 : decode cX8_word 44 = .ok (.getfield 68, 3) := dX8_word_r25.2.2.2.2.2.2.2.2.2.1
theorem dX8_word_47 : decode cX8_word 47 = .ok (.aload_n 0, 1) := dX8_word_r25.2.2.2.2.2.2.2.2.2.2.1
theorem dX8_word_48 : decode cX8_word 48 = .ok (.getfield 168, 3) := dX8_word_r25.2.2.2.2.2.2.2.2.2.2.2.1
theorem dX8_word_51 : decode cX8_word 51 = .ok (.iload 4, 2) := dX8_word_r25.2.2.2.2.2.2.2.2.2.2.2.2.1
theorem dX8_word_53 : decode cX8_word 53 = .ok (.iadd, 1) := dX8_word_r25.2.2.2.2.2.2.2.2.2.2.2.2.2.1
theorem dX8_word_54 : decode cX8_word 54 = .ok (.laload, 1) := dX8_word_r25.2.2.2.2.2.2.2.2.2.2.2.2.2.2.1
theorem dX8_word_55 : decode cX8_word 55 = .ok (.l2i, 1) := dX8_word_r25.2.2.2.2.2.2.2.2.2.2.2.2.2.2.2.1
theorem dX8_word_r56 : zdcP cX8_word 56 [(.aload_n 0, 1), (.getfield 75, 3), (.iload 5, 2), (.iaload, 1), (.if_icmp .ne 12, 3), (.iinc 4 1, 3), (.iinc 5 1, 3), (.goto (-48), 3), (.aload_n 0, 1), (.getfield 75, 3), (.iload 5, 2), (.iaload, 1), (.ifCond .ne 11, 3), (.aload_n 0, 1), (.iload 4, 2), (.putfield 162, 3)] := zdcA_ok (by decide +kernel)
theorem dX8_word_56 : decode cX8_word 56 = .ok (.aload_n 0, 1) := dX8_word_r56.1
theorem dX8_word_57 : decode cX8_word 57 = .ok (.getfield 75, 3) := dX8_word_r56.2.1
theorem dX8_word_60 : decode cX8_word 60 = .ok (.iload 5, 2) := dX8_word_r56.2.2.1
theorem dX8_word_62 : decode cX8_word 62 = .ok (.iaload, 1) := dX8_word_r56.2.2.2.1
theorem dX8_word_63 : decode cX8_word 63 = .ok (.if_icmp .ne 12, 3) := dX8_word_r56.2.2.2.2.1
theorem dX8_word_66 : decode cX8_word 66 = .ok (.iinc 4 1, 3) := dX8_word_r56.2.2.2.2.2.1
theorem dX8_word_69 : decode cX8_word 69 = .ok (.iinc 5 1, 3) := dX8_word_r56.2.2.2.2.2.2.1
theorem dX8_word_72 : decode cX8_word 72 = .ok (.goto (-48), 3) := dX8_word_r56.2.2.2.2.2.2.2.1
theorem dX8_word_75 : decode cX8_word 75 = .ok (.aload_n 0, 1) := dX8_word_r56.2.2.2.2.2.2.2.2.1
theorem dX8_word_76 : decode cX8_word 76 = .ok (.getfield 75, 3) := dX8_word_r56.2.2.2.2.2.2.2.2.2.1
theorem dX8_word_79 : decode cX8_word 79 = .ok (.iload 5, 2) := dX8_word_r56.2.2.2.2.2.2.2.2.2.2.1
theorem dX8_word_81 : decode cX8_word 81 = .ok (.iaload, 1) := dX8_word_r56.2.2.2.2.2.2.2.2.2.2.2.1
theorem dX8_word_82 : decode cX8_word 82 = .ok (.ifCond .ne 11, 3) := dX8_word_r56.2.2.2.2.2.2.2.2.2.2.2.2.1
theorem dX8_word_85 : decode cX8_word 85 = .ok (.aload_n 0, 1) := dX8_word_r56.2.2.2.2.2.2.2.2.2.2.2.2.2.1
theorem dX8_word_86 : decode cX8_word 86 = .ok (.iload 4, 2) := dX8_word_r56.2.2.2.2.2.2.2.2.2.2.2.2.2.2.1
theorem dX8_word_88 : decode cX8_word 88 = .ok (.putfield 162, 3) := dX8_word_r56.2.2.2.2.2.2.2.2.2.2.2.2.2.2.2.1
theorem dX8_word_r91 : zdcP cX8_word 91 [(.iload_n 3, 1), (.ireturn, 1), (.iload 4, 2), (.iload_n 2, 1), (.if_icmp .le 8, 3), (.iload 4, 2), (.goto 4, 3), (.iload_n 2, 1), (.istore_n 2, 1), (.aload_n 0, 1), (.getfield 75, 3), (.iload_n 1, 1), (.iaload, 1), (.ifCond .eq 9, 3), (.iinc 1 1, 3), (.goto (-12), 3)] := zdcA_ok (by decide +kernel)
theorem dX8_word_91 : decode cX8_word 91 = .ok (.iload_n 3, 1) := dX8_word_r91.1
theorem dX8_word_92 : decode cX8_word 92 = .ok (.ireturn, 1) := dX8_word_r91.2.1
theorem dX8_word_93 : decode cX8_word 93 = .ok (.iload 4, 2) := dX8_word_r91.2.2.1
theorem dX8_word_95 : decode cX8_word 95 = .ok (.iload_n 2, 1) := dX8_word_r91.2.2.2.1
theorem dX8_word_96 : decode cX8_word 96 = .ok (.if_icmp .le 8, 3) := dX8_word_r91.2.2.2.2.1
theorem dX8_word_99 : decode cX8_word 99 = .ok (.iload 4, 2) := dX8_word_r91.2.2.2.2.2.1
theorem dX8_word_101 : decode cX8_word 101 = .ok (.goto 4, 3) := dX8_word_r91.2.2.2.2.2.2.1
theorem dX8_word_104 : decode cX8_word 104 = .ok (.iload_n 2, 1) := dX8_word_r91.2.2.2.2.2.2.2.1
theorem dX8_word_105 : decode cX8_word 105 = .ok (.istore_n 2, 1) := dX8_word_r91.2.2.2.2.2.2.2.2.1
theorem dX8_word_106 : decode cX8_word 106 = .ok (.aload_n 0, 1) := dX8_word_r91.2.2.2.2.2.2.2.2.2.1
theorem dX8_word_107 : decode cX8_word 107 = .ok (.getfield 75, 3) := dX8_word_r91.2.2.2.2.2.2.2.2.2.2.1
theorem dX8_word_110 : decode cX8_word 110 = .ok (.iload_n 1, 1) := dX8_word_r91.2.2.2.2.2.2.2.2.2.2.2.1
theorem dX8_word_111 : decode cX8_word 111 = .ok (.iaload, 1) := dX8_word_r91.2.2.2.2.2.2.2.2.2.2.2.2.1
theorem dX8_word_112 : decode cX8_word 112 = .ok (.ifCond .eq 9, 3) := dX8_word_r91.2.2.2.2.2.2.2.2.2.2.2.2.2.1
theorem dX8_word_115 : decode cX8_word 115 = .ok (.iinc 1 1, 3) := dX8_word_r91.2.2.2.2.2.2.2.2.2.2.2.2.2.2.1
theorem dX8_word_118 : decode cX8_word 118 = .ok (.goto (-12), 3) := dX8_word_r91.2.2.2.2.2.2.2.2.2.2.2.2.2.2.2.1
theorem dX8_word_r121 : zdcP cX8_word 121 [(.iinc 1 1, 3), (.iinc 3 1, 3), (.goto (-118), 3), (.aload_n 0, 1), (.iload_n 2, 1), (.putfield 159, 3), (.iconst (-1), 1), (.ireturn, 1)] := zdcA_ok (by decide +kernel)
theorem dX8_word_121 : decode cX8_word 121 = .ok (.iinc 1 1, 3) := dX8_word_r121.1
theorem dX8_word_124 : decode cX8_word 124 = .ok (.iinc 3 1, 3) := dX8_word_r121.2.1
theorem dX8_word_127 : decode cX8_word 127 = .ok (.goto (-118), 3) := dX8_word_r121.2.2.1
theorem dX8_word_130 : decode cX8_word 130 = .ok (.aload_n 0, 1) := dX8_word_r121.2.2.2.1
theorem dX8_word_131 : decode cX8_word 131 = .ok (.iload_n 2, 1) := dX8_word_r121.2.2.2.2.1
theorem dX8_word_132 : decode cX8_word 132 = .ok (.putfield 159, 3) := dX8_word_r121.2.2.2.2.2.1
theorem dX8_word_135 : decode cX8_word 135 = .ok (.iconst (-1), 1) := dX8_word_r121.2.2.2.2.2.2.1
theorem dX8_word_136 : decode cX8_word 136 = .ok (.ireturn, 1) := dX8_word_r121.2.2.2.2.2.2.2.1
def wq_155_106 (F9 : Int32 → Int32 → Int32 → zf_Me → Prop) (Q : Int32 → zf_Me → Prop) : Nat → Int32 → Int32 → Int32 → zf_Me → Prop
  | 0, _, _, _, _ => False
  | n + 1, v1, v2, v3, m => ((0 ≤ (Int32.toInt v1) ∧ (Int32.toInt v1) < (75 : Int)) ∧ ((((m.1 76 (Int32.toInt v1).toNat)).toInt = 0 → F9 (v1 + 1) v2 (v3 + 1) m) ∧ (¬ ((m.1 76 (Int32.toInt v1).toNat)).toInt = 0 → wq_155_106 F9 Q n (v1 + 1) v2 v3 m)))
theorem zq_155_106 {d : Nat} (hd : 0 ≤ d) {F9 : Int32 → Int32 → Int32 → zf_Me → Prop} {Q : Int32 → zf_Me → Prop} (hF9 : ∀ (v1 : Int32) (v2 : Int32) (v3 : Int32) (m : zf_Me), F9 v1 v2 v3 m → zf_W none 0 0 d zt_155 9 [some (.inr (.inr (1, 63))), some (.inl v1), some (.inl v2), some (.inl v3), none, none] [] m (zf_I Q)) : ∀ (n : Nat) (v1 : Int32) (v2 : Int32) (v3 : Int32) (m : zf_Me), wq_155_106 F9 Q n v1 v2 v3 m → zf_W none 0 0 d zt_155 106 [some (.inr (.inr (1, 63))), some (.inl v1), some (.inl v2), some (.inl v3), none, none] [] m (zf_I Q) := by
  intro n
  induction n with
  | zero =>
    intro v1 v2 v3 m h
    exact h.elim
  | succ n ih =>
    intro v1 v2 v3 m h
    unfold wq_155_106 at h
    refine zf_ld (pc' := 107) (v := .inr (.inr (1, 63))) dX8_word_106 rfl (fun _ _ _ => rfl) rfl rfl rfl ?_
    refine zf_gfr (pc' := 110) (b := 76) dX8_word_107 rfl rfl (by decide) rfl rfl ?_
    refine zf_ld (pc' := 111) (v := .inl v1) dX8_word_110 rfl (fun _ _ _ => rfl) rfl rfl rfl ?_
    refine zf_ial (pc' := 112) dX8_word_111 rfl (⟨by decide, rfl⟩ : zf_arr 76 75).1 (⟨by decide, rfl⟩ : zf_arr 76 75).2 h.1 rfl ?_
    replace h := h.2
    refine zf_if_eq (tgt := 121) (pc' := 115) dX8_word_112 rfl rfl (fun g => ?_) (fun g => ?_)
    · replace h := h.1 g
      refine zf_ii (y := (v1 + 1)) (L2 := [some (.inr (.inr (1, 63))), some (.inl (v1 + 1)), some (.inl v2), some (.inl v3), none, none]) (pc' := 124) dX8_word_121 rfl rfl rfl rfl rfl ?_
      refine zf_ii (y := (v3 + 1)) (L2 := [some (.inr (.inr (1, 63))), some (.inl (v1 + 1)), some (.inl v2), some (.inl (v3 + 1)), none, none]) (pc' := 127) dX8_word_124 rfl rfl rfl rfl rfl ?_
      refine zf_goto (tgt := 9) dX8_word_127 rfl ?_
      exact zf_lo (hF9 _ _ _ _ h) ⟨rfl, rfl, rfl, rfl, trivial⟩
    · replace h := h.2 g
      refine zf_ii (y := (v1 + 1)) (L2 := [some (.inr (.inr (1, 63))), some (.inl (v1 + 1)), some (.inl v2), some (.inl v3), none, none]) (pc' := 118) dX8_word_115 rfl rfl rfl rfl rfl ?_
      refine zf_goto (tgt := 106) dX8_word_118 rfl ?_
      exact zf_lo (ih _ _ _ _ h) ⟨rfl, rfl, rfl, rfl, trivial⟩
def wq_155_75 (F9 : Int32 → Int32 → Int32 → zf_Me → Prop) (v1 : Int32) (v2 : Int32) (v3 : Int32) (v4 : Int32) (v5 : Int32) (m : zf_Me) (Q : Int32 → zf_Me → Prop) : Prop := ((0 ≤ (Int32.toInt v5) ∧ (Int32.toInt v5) < (75 : Int)) ∧ ((¬ ((m.1 76 (Int32.toInt v5).toNat)).toInt = 0 → ((v4.toInt ≤ v2.toInt → (∃ n106, wq_155_106 F9 Q n106 v1 v2 v3 m)) ∧ (v4.toInt > v2.toInt → (∃ n106, wq_155_106 F9 Q n106 v1 v4 v3 m)))) ∧ (((m.1 76 (Int32.toInt v5).toNat)).toInt = 0 → (∀ m3, m3 = zf_u m 63 30 v4 → Q v3 m3))))
theorem zq_155_75 {d : Nat} (hd : 0 ≤ d) {F9 : Int32 → Int32 → Int32 → zf_Me → Prop} {Q : Int32 → zf_Me → Prop} (hF9 : ∀ (v1 : Int32) (v2 : Int32) (v3 : Int32) (m : zf_Me), F9 v1 v2 v3 m → zf_W none 0 0 d zt_155 9 [some (.inr (.inr (1, 63))), some (.inl v1), some (.inl v2), some (.inl v3), none, none] [] m (zf_I Q)) {v1 : Int32} {v2 : Int32} {v3 : Int32} {v4 : Int32} {v5 : Int32} {m : zf_Me} (h : wq_155_75 F9 v1 v2 v3 v4 v5 m Q) : zf_W none 0 0 d zt_155 75 [some (.inr (.inr (1, 63))), some (.inl v1), some (.inl v2), some (.inl v3), some (.inl v4), some (.inl v5)] [] m (zf_I Q) := by
  unfold wq_155_75 at h
  refine zf_ld (pc' := 76) (v := .inr (.inr (1, 63))) dX8_word_75 rfl (fun _ _ _ => rfl) rfl rfl rfl ?_
  refine zf_gfr (pc' := 79) (b := 76) dX8_word_76 rfl rfl (by decide) rfl rfl ?_
  refine zf_ld (pc' := 81) (v := .inl v5) dX8_word_79 rfl (fun _ _ _ => rfl) rfl rfl rfl ?_
  refine zf_ial (pc' := 82) dX8_word_81 rfl (⟨by decide, rfl⟩ : zf_arr 76 75).1 (⟨by decide, rfl⟩ : zf_arr 76 75).2 h.1 rfl ?_
  replace h := h.2
  refine zf_if_ne (tgt := 93) (pc' := 85) dX8_word_82 rfl rfl (fun g => ?_) (fun g => ?_)
  · replace h := h.1 g
    refine zf_ld (pc' := 95) (v := .inl v4) dX8_word_93 rfl (fun _ _ _ => rfl) rfl rfl rfl ?_
    refine zf_ld (pc' := 96) (v := .inl v2) dX8_word_95 rfl (fun _ _ _ => rfl) rfl rfl rfl ?_
    refine zf_icmp_le (tgt := 104) (pc' := 99) dX8_word_96 rfl rfl (fun g => ?_) (fun g => ?_)
    · replace h := h.1 g
      refine zf_ld (pc' := 105) (v := .inl v2) dX8_word_104 rfl (fun _ _ _ => rfl) rfl rfl rfl ?_
      refine zf_st (pc' := 106) (L2 := [some (.inr (.inr (1, 63))), some (.inl v1), some (.inl v2), some (.inl v3), some (.inl v4), some (.inl v5)]) dX8_word_105 rfl (fun _ _ _ => rfl) rfl rfl rfl rfl rfl rfl ?_
      obtain ⟨n106, h⟩ := h
      exact zf_lo (zq_155_106 (by omega) hF9 n106 _ _ _ _ h) ⟨rfl, rfl, rfl, rfl, trivial⟩
    · replace h := h.2 g
      refine zf_ld (pc' := 101) (v := .inl v4) dX8_word_99 rfl (fun _ _ _ => rfl) rfl rfl rfl ?_
      refine zf_goto (tgt := 105) dX8_word_101 rfl ?_
      refine zf_st (pc' := 106) (L2 := [some (.inr (.inr (1, 63))), some (.inl v1), some (.inl v4), some (.inl v3), some (.inl v4), some (.inl v5)]) dX8_word_105 rfl (fun _ _ _ => rfl) rfl rfl rfl rfl rfl rfl ?_
      obtain ⟨n106, h⟩ := h
      exact zf_lo (zq_155_106 (by omega) hF9 n106 _ _ _ _ h) ⟨rfl, rfl, rfl, rfl, trivial⟩
  · replace h := h.2 g
    refine zf_ld (pc' := 86) (v := .inr (.inr (1, 63))) dX8_word_85 rfl (fun _ _ _ => rfl) rfl rfl rfl ?_
    refine zf_ld (pc' := 88) (v := .inl v4) dX8_word_86 rfl (fun _ _ _ => rfl) rfl rfl rfl ?_
    refine zf_pf (pc' := 91) dX8_word_88 rfl rfl (by decide) rfl rfl rfl (fun m3 e4 => ?_)
    replace h := h m3 e4
    refine zf_ld (pc' := 92) (v := .inl v3) dX8_word_91 rfl (fun _ _ _ => rfl) rfl rfl rfl ?_
    exact zf_ri dX8_word_92 rfl h
def wq_155_24 (F9 : Int32 → Int32 → Int32 → zf_Me → Prop) (Q : Int32 → zf_Me → Prop) : Nat → Int32 → Int32 → Int32 → Int32 → Int32 → zf_Me → Prop
  | 0, _, _, _, _, _, _ => False
  | n + 1, v1, v2, v3, v4, v5, m => ((0 ≤ (Int32.toInt v5) ∧ (Int32.toInt v5) < (75 : Int)) ∧ ((((m.1 76 (Int32.toInt v5).toNat)).toInt = 0 → wq_155_75 F9 v1 v2 v3 v4 v5 m Q) ∧ (¬ ((m.1 76 (Int32.toInt v5).toNat)).toInt = 0 → ((v4.toInt ≥ ((m.1 63 31)).toInt → wq_155_75 F9 v1 v2 v3 v4 v5 m Q) ∧ (v4.toInt < ((m.1 63 31)).toInt → ((0 ≤ (Int32.toInt ((m.1 63 29) + v4)) ∧ (Int32.toInt ((m.1 63 29) + v4)) < (1280 : Int)) ∧ ((0 ≤ (Int32.toInt v5) ∧ (Int32.toInt v5) < (75 : Int)) ∧ ((¬ ((Int64.toInt32 (m.2 74 (Int32.toInt ((m.1 63 29) + v4)).toNat))).toInt = ((m.1 76 (Int32.toInt v5).toNat)).toInt → wq_155_75 F9 v1 v2 v3 v4 v5 m Q) ∧ (((Int64.toInt32 (m.2 74 (Int32.toInt ((m.1 63 29) + v4)).toNat))).toInt = ((m.1 76 (Int32.toInt v5).toNat)).toInt → wq_155_24 F9 Q n v1 v2 v3 (v4 + 1) (v5 + 1) m)))))))))
theorem zq_155_24 {d : Nat} (hd : 0 ≤ d) {F9 : Int32 → Int32 → Int32 → zf_Me → Prop} {Q : Int32 → zf_Me → Prop} (hF9 : ∀ (v1 : Int32) (v2 : Int32) (v3 : Int32) (m : zf_Me), F9 v1 v2 v3 m → zf_W none 0 0 d zt_155 9 [some (.inr (.inr (1, 63))), some (.inl v1), some (.inl v2), some (.inl v3), none, none] [] m (zf_I Q)) : ∀ (n : Nat) (v1 : Int32) (v2 : Int32) (v3 : Int32) (v4 : Int32) (v5 : Int32) (m : zf_Me), wq_155_24 F9 Q n v1 v2 v3 v4 v5 m → zf_W none 0 0 d zt_155 24 [some (.inr (.inr (1, 63))), some (.inl v1), some (.inl v2), some (.inl v3), some (.inl v4), some (.inl v5)] [] m (zf_I Q) := by
  intro n
  induction n with
  | zero =>
    intro v1 v2 v3 v4 v5 m h
    exact h.elim
  | succ n ih =>
    intro v1 v2 v3 v4 v5 m h
    unfold wq_155_24 at h
    refine zf_ld (pc' := 25) (v := .inr (.inr (1, 63))) dX8_word_24 rfl (fun _ _ _ => rfl) rfl rfl rfl ?_
    refine zf_gfr (pc' := 28) (b := 76) dX8_word_25 rfl rfl (by decide) rfl rfl ?_
    refine zf_ld (pc' := 30) (v := .inl v5) dX8_word_28 rfl (fun _ _ _ => rfl) rfl rfl rfl ?_
    refine zf_ial (pc' := 31) dX8_word_30 rfl (⟨by decide, rfl⟩ : zf_arr 76 75).1 (⟨by decide, rfl⟩ : zf_arr 76 75).2 h.1 rfl ?_
    replace h := h.2
    refine zf_if_eq (tgt := 75) (pc' := 34) dX8_word_31 rfl rfl (fun g => ?_) (fun g => ?_)
    · replace h := h.1 g
      exact zf_lo (zq_155_75 (by omega) hF9 h) ⟨rfl, rfl, rfl, rfl, rfl, rfl, trivial⟩
    · replace h := h.2 g
      refine zf_ld (pc' := 36) (v := .inl v4) dX8_word_34 rfl (fun _ _ _ => rfl) rfl rfl rfl ?_
      refine zf_ld (pc' := 37) (v := .inr (.inr (1, 63))) dX8_word_36 rfl (fun _ _ _ => rfl) rfl rfl rfl ?_
      refine zf_gfi (pc' := 40) dX8_word_37 rfl rfl (by decide) rfl rfl ?_
      refine zf_icmp_ge (tgt := 75) (pc' := 43) dX8_word_40 rfl rfl (fun g => ?_) (fun g => ?_)
      · replace h := h.1 g
        exact zf_lo (zq_155_75 (by omega) hF9 h) ⟨rfl, rfl, rfl, rfl, rfl, rfl, trivial⟩
      · replace h := h.2 g
        refine zf_ld (pc' := 44) (v := .inr (.inr (1, 63))) dX8_word_43 rfl (fun _ _ _ => rfl) rfl rfl rfl ?_
        refine zf_gfr (pc' := 47) (b := 74) dX8_word_44 rfl rfl (by decide) rfl rfl ?_
        refine zf_ld (pc' := 48) (v := .inr (.inr (1, 63))) dX8_word_47 rfl (fun _ _ _ => rfl) rfl rfl rfl ?_
        refine zf_gfi (pc' := 51) dX8_word_48 rfl rfl (by decide) rfl rfl ?_
        refine zf_ld (pc' := 53) (v := .inl v4) dX8_word_51 rfl (fun _ _ _ => rfl) rfl rfl rfl ?_
        refine zf_in (pc' := 54) (S' := [.inl ((m.1 63 29) + v4), .inr (.inr (1, 74))]) dX8_word_53 rfl (fun _ _ _ => rfl) ?_
        refine zf_lal (pc' := 55) dX8_word_54 rfl (⟨by decide, rfl⟩ : zf_larr 74 1280).1 (⟨by decide, rfl⟩ : zf_larr 74 1280).2 h.1 rfl ?_
        replace h := h.2
        refine zf_in (pc' := 56) (S' := [.inl (Int64.toInt32 (m.2 74 (Int32.toInt ((m.1 63 29) + v4)).toNat))]) dX8_word_55 rfl (fun _ _ _ => rfl) ?_
        refine zf_ld (pc' := 57) (v := .inr (.inr (1, 63))) dX8_word_56 rfl (fun _ _ _ => rfl) rfl rfl rfl ?_
        refine zf_gfr (pc' := 60) (b := 76) dX8_word_57 rfl rfl (by decide) rfl rfl ?_
        refine zf_ld (pc' := 62) (v := .inl v5) dX8_word_60 rfl (fun _ _ _ => rfl) rfl rfl rfl ?_
        refine zf_ial (pc' := 63) dX8_word_62 rfl (⟨by decide, rfl⟩ : zf_arr 76 75).1 (⟨by decide, rfl⟩ : zf_arr 76 75).2 h.1 rfl ?_
        replace h := h.2
        refine zf_icmp_ne (tgt := 75) (pc' := 66) dX8_word_63 rfl rfl (fun g => ?_) (fun g => ?_)
        · replace h := h.1 g
          exact zf_lo (zq_155_75 (by omega) hF9 h) ⟨rfl, rfl, rfl, rfl, rfl, rfl, trivial⟩
        · replace h := h.2 g
          refine zf_ii (y := (v4 + 1)) (L2 := [some (.inr (.inr (1, 63))), some (.inl v1), some (.inl v2), some (.inl v3), some (.inl (v4 + 1)), some (.inl v5)]) (pc' := 69) dX8_word_66 rfl rfl rfl rfl rfl ?_
          refine zf_ii (y := (v5 + 1)) (L2 := [some (.inr (.inr (1, 63))), some (.inl v1), some (.inl v2), some (.inl v3), some (.inl (v4 + 1)), some (.inl (v5 + 1))]) (pc' := 72) dX8_word_69 rfl rfl rfl rfl rfl ?_
          refine zf_goto (tgt := 24) dX8_word_72 rfl ?_
          exact zf_lo (ih _ _ _ _ _ _ h) ⟨rfl, rfl, rfl, rfl, rfl, rfl, trivial⟩
def wq_155_9 (Q : Int32 → zf_Me → Prop) : Nat → Int32 → Int32 → Int32 → zf_Me → Prop
  | 0, _, _, _, _ => False
  | n + 1, v1, v2, v3, m => ((v3.toInt ≥ 12 → (∀ m1, m1 = zf_u m 63 33 v2 → Q (-1) m1)) ∧ (v3.toInt < 12 → (∃ n24, wq_155_24 (wq_155_9 Q n) Q n24 v1 v2 v3 (m.1 63 30) v1 m)))
theorem zq_155_9 {d : Nat} (hd : 0 ≤ d) {Q : Int32 → zf_Me → Prop} : ∀ (n : Nat) (v1 : Int32) (v2 : Int32) (v3 : Int32) (m : zf_Me), wq_155_9 Q n v1 v2 v3 m → zf_W none 0 0 d zt_155 9 [some (.inr (.inr (1, 63))), some (.inl v1), some (.inl v2), some (.inl v3), none, none] [] m (zf_I Q) := by
  intro n
  induction n with
  | zero =>
    intro v1 v2 v3 m h
    exact h.elim
  | succ n ih =>
    intro v1 v2 v3 m h
    unfold wq_155_9 at h
    refine zf_ld (pc' := 10) (v := .inl v3) dX8_word_9 rfl (fun _ _ _ => rfl) rfl rfl rfl ?_
    refine zf_bi (v := 12) (pc' := 12) dX8_word_10 rfl rfl ?_
    refine zf_icmp_ge (tgt := 130) (pc' := 15) dX8_word_12 rfl rfl (fun g => ?_) (fun g => ?_)
    · replace h := h.1 g
      refine zf_ld (pc' := 131) (v := .inr (.inr (1, 63))) dX8_word_130 rfl (fun _ _ _ => rfl) rfl rfl rfl ?_
      refine zf_ld (pc' := 132) (v := .inl v2) dX8_word_131 rfl (fun _ _ _ => rfl) rfl rfl rfl ?_
      refine zf_pf (pc' := 135) dX8_word_132 rfl rfl (by decide) rfl rfl rfl (fun m1 e2 => ?_)
      replace h := h m1 e2
      refine zf_ic (v := (-1)) (pc' := 136) dX8_word_135 rfl rfl ?_
      exact zf_ri dX8_word_136 rfl h
    · replace h := h.2 g
      refine zf_ld (pc' := 16) (v := .inr (.inr (1, 63))) dX8_word_15 rfl (fun _ _ _ => rfl) rfl rfl rfl ?_
      refine zf_gfi (pc' := 19) dX8_word_16 rfl rfl (by decide) rfl rfl ?_
      refine zf_st (pc' := 21) (L2 := [some (.inr (.inr (1, 63))), some (.inl v1), some (.inl v2), some (.inl v3), some (.inl (m.1 63 30)), none]) dX8_word_19 rfl (fun _ _ _ => rfl) rfl rfl rfl rfl rfl rfl ?_
      refine zf_ld (pc' := 22) (v := .inl v1) dX8_word_21 rfl (fun _ _ _ => rfl) rfl rfl rfl ?_
      refine zf_st (pc' := 24) (L2 := [some (.inr (.inr (1, 63))), some (.inl v1), some (.inl v2), some (.inl v3), some (.inl (m.1 63 30)), some (.inl v1)]) dX8_word_22 rfl (fun _ _ _ => rfl) rfl rfl rfl rfl rfl rfl ?_
      obtain ⟨n24, h⟩ := h
      exact zf_lo (zq_155_24 (by omega) ih n24 _ _ _ _ _ _ h) ⟨rfl, rfl, rfl, rfl, rfl, rfl, trivial⟩
def wp_155 (m : zf_Me) (Q : Int32 → zf_Me → Prop) : Prop := (∃ n9, wq_155_9 Q n9 0 (m.1 63 30) 0 m)
theorem zr_155 {d : Nat} (hd : 0 ≤ d) {Q : Int32 → zf_Me → Prop} {m : zf_Me} (h : wp_155 m Q) : zf_M d 155 [.inr (.inr (1, 63))] m (zf_I Q) := by
  unfold wp_155 at h
  refine zf_M_of (Nat.le_of_ble_eq_true rfl) zm_155 (L := [some (.inr (.inr (1, 63))), none, none, none, none, none]) rfl ?_
  refine zf_ic (v := 0) (pc' := 1) dX8_word_0 rfl rfl ?_
  refine zf_st (pc' := 2) (L2 := [some (.inr (.inr (1, 63))), some (.inl 0), none, none, none, none]) dX8_word_1 rfl (fun _ _ _ => rfl) rfl rfl rfl rfl rfl rfl ?_
  refine zf_ld (pc' := 3) (v := .inr (.inr (1, 63))) dX8_word_2 rfl (fun _ _ _ => rfl) rfl rfl rfl ?_
  refine zf_gfi (pc' := 6) dX8_word_3 rfl rfl (by decide) rfl rfl ?_
  refine zf_st (pc' := 7) (L2 := [some (.inr (.inr (1, 63))), some (.inl 0), some (.inl (m.1 63 30)), none, none, none]) dX8_word_6 rfl (fun _ _ _ => rfl) rfl rfl rfl rfl rfl rfl ?_
  refine zf_ic (v := 0) (pc' := 8) dX8_word_7 rfl rfl ?_
  refine zf_st (pc' := 9) (L2 := [some (.inr (.inr (1, 63))), some (.inl 0), some (.inl (m.1 63 30)), some (.inl 0), none, none]) dX8_word_8 rfl (fun _ _ _ => rfl) rfl rfl rfl rfl rfl rfl ?_
  obtain ⟨n9, h⟩ := h
  exact zf_lo (zq_155_9 (by omega) n9 _ _ _ _ h) ⟨rfl, rfl, rfl, rfl, trivial⟩
def zt_156 : zx_MT := (8, yX8_isDigit, cX8_isDigit, 1, (some FieldType.boolean), 0, 0)
theorem zm_156 : zx_m 156 = zt_156 := rfl
theorem dX8_isDigit_r0 : zdcP cX8_isDigit 0 [(.aload_n 0, 1), (.getfield 162, 3), (.aload_n 0, 1), (.getfield 165, 3), (.if_icmp .ge 47, 3), (.aload_n 0, 1), (.getfield 68, 3), (.aload_n 0, 1), (.getfield 168, 3), (.aload_n 0, 1), (.getfield 162, 3), (.iadd, 1), (.laload, 1), (.l2i, 1), (.bipush 48, 2), (.if_icmp .lt 27, 3)] := zdcA_ok (by decide +kernel)
theorem dX8_isDigit_0 : decode cX8_isDigit 0 = .ok (.aload_n 0, 1) := dX8_isDigit_r0.1
theorem dX8_isDigit_1 : decode cX8_isDigit 1 = .ok (.getfield 162, 3) := dX8_isDigit_r0.2.1
theorem dX8_isDigit_4 : decode cX8_isDigit 4 = .ok (.aload_n 0, 1) := dX8_isDigit_r0.2.2.1
theorem dX8_isDigit_5 : decode cX8_isDigit 5 = .ok (.getfield 165, 3) := dX8_isDigit_r0.2.2.2.1
theorem dX8_isDigit_8 : decode cX8_isDigit 8 = .ok (.if_icmp .ge 47, 3) := dX8_isDigit_r0.2.2.2.2.1
theorem dX8_isDigit_11 : decode cX8_isDigit 11 = .ok (.aload_n 0, 1) := dX8_isDigit_r0.2.2.2.2.2.1
theorem dX8_isDigit_12 : decode cX8_isDigit 12 = .ok (.getfield 68, 3) := dX8_isDigit_r0.2.2.2.2.2.2.1
theorem dX8_isDigit_15 : decode cX8_isDigit 15 = .ok (.aload_n 0, 1) := dX8_isDigit_r0.2.2.2.2.2.2.2.1
theorem dX8_isDigit_16 : decode cX8_isDigit 16 = .ok (.getfield 168, 3) := dX8_isDigit_r0.2.2.2.2.2.2.2.2.1
theorem dX8_isDigit_19 : decode cX8_isDigit 19 = .ok (.aload_n 0, 1) := dX8_isDigit_r0.2.2.2.2.2.2.2.2.2.1
theorem dX8_isDigit_20 : decode cX8_isDigit 20 = .ok (.getfield 162, 3) := dX8_isDigit_r0.2.2.2.2.2.2.2.2.2.2.1
theorem dX8_isDigit_23 : decode cX8_isDigit 23 = .ok (.iadd, 1) := dX8_isDigit_r0.2.2.2.2.2.2.2.2.2.2.2.1
theorem dX8_isDigit_24 : decode cX8_isDigit 24 = .ok (.laload, 1) := dX8_isDigit_r0.2.2.2.2.2.2.2.2.2.2.2.2.1
theorem dX8_isDigit_25 : decode cX8_isDigit 25 = .ok (.l2i, 1) := dX8_isDigit_r0.2.2.2.2.2.2.2.2.2.2.2.2.2.1
theorem dX8_isDigit_26 : decode cX8_isDigit 26 = .ok (.bipush 48, 2) := dX8_isDigit_r0.2.2.2.2.2.2.2.2.2.2.2.2.2.2.1
theorem dX8_isDigit_28 : decode cX8_isDigit 28 = .ok (.if_icmp .lt 27, 3) := dX8_isDigit_r0.2.2.2.2.2.2.2.2.2.2.2.2.2.2.2.1
theorem dX8_isDigit_r31 : zdcP cX8_isDigit 31 [(.aload_n 0, 1), (.getfield 68, 3), (.aload_n 0, 1), (.getfield 168, 3), (.aload_n 0, 1), (.getfield 162, 3), (.iadd, 1), (.laload, 1), (.l2i, 1), (.bipush 57, 2), (.if_icmp .gt 7, 3), (.iconst 1, 1), (.goto 4, 3), (.iconst 0, 1), (.ireturn, 1)] := zdcA_ok (by decide +kernel)
theorem dX8_isDigit_31 : decode cX8_isDigit 31 = .ok (.aload_n 0, 1) := dX8_isDigit_r31.1
theorem dX8_isDigit_32 : decode cX8_isDigit 32 = .ok (.getfield 68, 3) := dX8_isDigit_r31.2.1
theorem dX8_isDigit_35 : decode cX8_isDigit 35 = .ok (.aload_n 0, 1) := dX8_isDigit_r31.2.2.1
theorem dX8_isDigit_36 : decode cX8_isDigit 36 = .ok (.getfield 168, 3) := dX8_isDigit_r31.2.2.2.1
theorem dX8_isDigit_39 : decode cX8_isDigit 39 = .ok (.aload_n 0, 1) := dX8_isDigit_r31.2.2.2.2.1
theorem dX8_isDigit_40 : decode cX8_isDigit 40 = .ok (.getfield 162, 3) := dX8_isDigit_r31.2.2.2.2.2.1
theorem dX8_isDigit_43 : decode cX8_isDigit 43 = .ok (.iadd, 1) := dX8_isDigit_r31.2.2.2.2.2.2.1
theorem dX8_isDigit_44 : decode cX8_isDigit 44 = .ok (.laload, 1) := dX8_isDigit_r31.2.2.2.2.2.2.2.1
theorem dX8_isDigit_45 : decode cX8_isDigit 45 = .ok (.l2i, 1) := dX8_isDigit_r31.2.2.2.2.2.2.2.2.1
theorem dX8_isDigit_46 : decode cX8_isDigit 46 = .ok (.bipush 57, 2) := dX8_isDigit_r31.2.2.2.2.2.2.2.2.2.1
theorem dX8_isDigit_48 : decode cX8_isDigit 48 = .ok (.if_icmp .gt 7, 3) := dX8_isDigit_r31.2.2.2.2.2.2.2.2.2.2.1
theorem dX8_isDigit_51 : decode cX8_isDigit 51 = .ok (.iconst 1, 1) := dX8_isDigit_r31.2.2.2.2.2.2.2.2.2.2.2.1
theorem dX8_isDigit_52 : decode cX8_isDigit 52 = .ok (.goto 4, 3) := dX8_isDigit_r31.2.2.2.2.2.2.2.2.2.2.2.2.1
theorem dX8_isDigit_55 : decode cX8_isDigit 55 = .ok (.iconst 0, 1) := dX8_isDigit_r31.2.2.2.2.2.2.2.2.2.2.2.2.2.1
theorem dX8_isDigit_56 : decode cX8_isDigit 56 = .ok (.ireturn, 1) := dX8_isDigit_r31.2.2.2.2.2.2.2.2.2.2.2.2.2.2.1
def wp_156 (m : zf_Me) (Q : Bool → zf_Me → Prop) : Prop := ((((m.1 63 30)).toInt ≥ ((m.1 63 31)).toInt → Q false m) ∧ (((m.1 63 30)).toInt < ((m.1 63 31)).toInt → ((0 ≤ (Int32.toInt ((m.1 63 29) + (m.1 63 30))) ∧ (Int32.toInt ((m.1 63 29) + (m.1 63 30))) < (1280 : Int)) ∧ ((((Int64.toInt32 (m.2 74 (Int32.toInt ((m.1 63 29) + (m.1 63 30))).toNat))).toInt < 48 → Q false m) ∧ (((Int64.toInt32 (m.2 74 (Int32.toInt ((m.1 63 29) + (m.1 63 30))).toNat))).toInt ≥ 48 → ((0 ≤ (Int32.toInt ((m.1 63 29) + (m.1 63 30))) ∧ (Int32.toInt ((m.1 63 29) + (m.1 63 30))) < (1280 : Int)) ∧ ((((Int64.toInt32 (m.2 74 (Int32.toInt ((m.1 63 29) + (m.1 63 30))).toNat))).toInt > 57 → Q false m) ∧ (((Int64.toInt32 (m.2 74 (Int32.toInt ((m.1 63 29) + (m.1 63 30))).toNat))).toInt ≤ 57 → Q true m))))))))
theorem zr_156 {d : Nat} (hd : 0 ≤ d) {Q : Bool → zf_Me → Prop} {m : zf_Me} (h : wp_156 m Q) : zf_M d 156 [.inr (.inr (1, 63))] m (zf_B Q) := by
  unfold wp_156 at h
  refine zf_M_of (Nat.le_of_ble_eq_true rfl) zm_156 (L := [some (.inr (.inr (1, 63)))]) rfl ?_
  refine zf_ld (pc' := 1) (v := .inr (.inr (1, 63))) dX8_isDigit_0 rfl (fun _ _ _ => rfl) rfl rfl rfl ?_
  refine zf_gfi (pc' := 4) dX8_isDigit_1 rfl rfl (by decide) rfl rfl ?_
  refine zf_ld (pc' := 5) (v := .inr (.inr (1, 63))) dX8_isDigit_4 rfl (fun _ _ _ => rfl) rfl rfl rfl ?_
  refine zf_gfi (pc' := 8) dX8_isDigit_5 rfl rfl (by decide) rfl rfl ?_
  refine zf_icmp_ge (tgt := 55) (pc' := 11) dX8_isDigit_8 rfl rfl (fun g => ?_) (fun g => ?_)
  · replace h := h.1 g
    refine zf_ic (v := 0) (pc' := 56) dX8_isDigit_55 rfl rfl ?_
    exact zf_rb (b := false) dX8_isDigit_56 rfl h
  · replace h := h.2 g
    refine zf_ld (pc' := 12) (v := .inr (.inr (1, 63))) dX8_isDigit_11 rfl (fun _ _ _ => rfl) rfl rfl rfl ?_
    refine zf_gfr (pc' := 15) (b := 74) dX8_isDigit_12 rfl rfl (by decide) rfl rfl ?_
    refine zf_ld (pc' := 16) (v := .inr (.inr (1, 63))) dX8_isDigit_15 rfl (fun _ _ _ => rfl) rfl rfl rfl ?_
    refine zf_gfi (pc' := 19) dX8_isDigit_16 rfl rfl (by decide) rfl rfl ?_
    refine zf_ld (pc' := 20) (v := .inr (.inr (1, 63))) dX8_isDigit_19 rfl (fun _ _ _ => rfl) rfl rfl rfl ?_
    refine zf_gfi (pc' := 23) dX8_isDigit_20 rfl rfl (by decide) rfl rfl ?_
    refine zf_in (pc' := 24) (S' := [.inl ((m.1 63 29) + (m.1 63 30)), .inr (.inr (1, 74))]) dX8_isDigit_23 rfl (fun _ _ _ => rfl) ?_
    refine zf_lal (pc' := 25) dX8_isDigit_24 rfl (⟨by decide, rfl⟩ : zf_larr 74 1280).1 (⟨by decide, rfl⟩ : zf_larr 74 1280).2 h.1 rfl ?_
    replace h := h.2
    refine zf_in (pc' := 26) (S' := [.inl (Int64.toInt32 (m.2 74 (Int32.toInt ((m.1 63 29) + (m.1 63 30))).toNat))]) dX8_isDigit_25 rfl (fun _ _ _ => rfl) ?_
    refine zf_bi (v := 48) (pc' := 28) dX8_isDigit_26 rfl rfl ?_
    refine zf_icmp_lt (tgt := 55) (pc' := 31) dX8_isDigit_28 rfl rfl (fun g => ?_) (fun g => ?_)
    · replace h := h.1 g
      refine zf_ic (v := 0) (pc' := 56) dX8_isDigit_55 rfl rfl ?_
      exact zf_rb (b := false) dX8_isDigit_56 rfl h
    · replace h := h.2 g
      refine zf_ld (pc' := 32) (v := .inr (.inr (1, 63))) dX8_isDigit_31 rfl (fun _ _ _ => rfl) rfl rfl rfl ?_
      refine zf_gfr (pc' := 35) (b := 74) dX8_isDigit_32 rfl rfl (by decide) rfl rfl ?_
      refine zf_ld (pc' := 36) (v := .inr (.inr (1, 63))) dX8_isDigit_35 rfl (fun _ _ _ => rfl) rfl rfl rfl ?_
      refine zf_gfi (pc' := 39) dX8_isDigit_36 rfl rfl (by decide) rfl rfl ?_
      refine zf_ld (pc' := 40) (v := .inr (.inr (1, 63))) dX8_isDigit_39 rfl (fun _ _ _ => rfl) rfl rfl rfl ?_
      refine zf_gfi (pc' := 43) dX8_isDigit_40 rfl rfl (by decide) rfl rfl ?_
      refine zf_in (pc' := 44) (S' := [.inl ((m.1 63 29) + (m.1 63 30)), .inr (.inr (1, 74))]) dX8_isDigit_43 rfl (fun _ _ _ => rfl) ?_
      refine zf_lal (pc' := 45) dX8_isDigit_44 rfl (⟨by decide, rfl⟩ : zf_larr 74 1280).1 (⟨by decide, rfl⟩ : zf_larr 74 1280).2 h.1 rfl ?_
      replace h := h.2
      refine zf_in (pc' := 46) (S' := [.inl (Int64.toInt32 (m.2 74 (Int32.toInt ((m.1 63 29) + (m.1 63 30))).toNat))]) dX8_isDigit_45 rfl (fun _ _ _ => rfl) ?_
      refine zf_bi (v := 57) (pc' := 48) dX8_isDigit_46 rfl rfl ?_
      refine zf_icmp_gt (tgt := 55) (pc' := 51) dX8_isDigit_48 rfl rfl (fun g => ?_) (fun g => ?_)
      · replace h := h.1 g
        refine zf_ic (v := 0) (pc' := 56) dX8_isDigit_55 rfl rfl ?_
        exact zf_rb (b := false) dX8_isDigit_56 rfl h
      · replace h := h.2 g
        refine zf_ic (v := 1) (pc' := 52) dX8_isDigit_51 rfl rfl ?_
        refine zf_goto (tgt := 56) dX8_isDigit_52 rfl ?_
        exact zf_rb (b := true) dX8_isDigit_56 rfl h
