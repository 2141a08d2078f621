/-! part 25: methods 55..: laid by wip/flat/dec.py -/
def zt_55 : zx_MT := (5, yX5_mayRest, cX5_mayRest, 1, (some FieldType.boolean), 0, 0)
theorem zm_55 : zx_m 55 = zt_55 := rfl
theorem dX5_mayRest_r0 : zdcP cX5_mayRest 0 [(.aload_n 0, 1), (.getfield 43, 3), (.sipush 900, 3), (.if_icmp .gt 32, 3), (.aload_n 0, 1), (.getfield 40, 3), (.ifCond .eq 21, 3), (.aload_n 0, 1), (.getfield 49, 3), (.getfield 111, 3), (.aload_n 0, 1), (.getfield 40, 3), (.iconst 1, 1), (.isub, 1), (.iaload, 1), (.iconst 1, 1)] := zdcA_ok (by decide +kernel)
theorem dX5_mayRest_0 : decode cX5_mayRest 0 = .ok (.aload_n 0, 1) := dX5_mayRest_r0.1
theorem dX5_mayRest_1 : decode cX5_mayRest 1 = .ok (.getfield 43, 3) := dX5_mayRest_r0.2.1
theorem dX5_mayRest_4 : decode cX5_mayRest 4 = .ok (.sipush 900, 3) := dX5_mayRest_r0.2.2.1
theorem dX5_mayRest_7 : decode cX5_mayRest 7 = .ok (.if_icmp .gt 32, 3) := dX5_mayRest_r0.2.2.2.1
theorem dX5_mayRest_10 : decode cX5_mayRest 10 = .ok (.aload_n 0, 1) := dX5_mayRest_r0.2.2.2.2.1
theorem dX5_mayRest_11 : decode cX5_mayRest 11 = .ok (.getfield 40, 3) := dX5_mayRest_r0.2.2.2.2.2.1
theorem dX5_mayRest_14 : decode cX5_mayRest 14 = .ok (.ifCond .eq 21, 3) := dX5_mayRest_r0.2.2.2.2.2.2.1
theorem dX5_mayRest_17 : decode cX5_mayRest 17 = .ok (.aload_n 0, 1) := dX5_mayRest_r0.2.2.2.2.2.2.2.1
theorem dX5_mayRest_18 : decode cX5_mayRest 18 = .ok (.getfield 49, 3) := dX5_mayRest_r0.2.2.2.2.2.2.2.2.1
theorem dX5_mayRest_21 : decode cX5_mayRest 21 = .ok (.getfield 111, 3) := dX5_mayRest_r0.2.2.2.2.2.2.2.2.2.1
theorem dX5_mayRest_24 : decode cX5_mayRest 24 = .ok (.aload_n 0, 1) := dX5_mayRest_r0.2.2.2.2.2.2.2.2.2.2.1
theorem dX5_mayRest_25 : decode cX5_mayRest 25 = .ok (.getfield 40, 3) := dX5_mayRest_r0.2.2.2.2.2.2.2.2.2.2.2.1
theorem dX5_mayRest_28 : decode cX5_mayRest 28 = .ok (.iconst 1, 1) := dX5_mayRest_r0.2.2.2.2.2.2.2.2.2.2.2.2.1
theorem dX5_mayRest_29 : decode cX5_mayRest 29 = .ok (.isub, 1) := dX5_mayRest_r0.2.2.2.2.2.2.2.2.2.2.2.2.2.1
theorem dX5_mayRest_30 : decode cX5_mayRest 30 = .ok (.iaload, 1) := dX5_mayRest_r0.2.2.2.2.2.2.2.2.2.2.2.2.2.2.1
theorem dX5_mayRest_31 : decode cX5_mayRest 31 = .ok (.iconst 1, 1) := dX5_mayRest_r0.2.2.2.2.2.2.2.2.2.2.2.2.2.2.2.1
theorem dX5_mayRest_r32 : zdcP cX5_mayRest 32 [(.if_icmp .ne 7, 3), (.iconst 1, 1), (.goto 4, 3), (.iconst 0, 1), (.ireturn, 1)] := zdcA_ok (by decide +kernel)
theorem dX5_mayRest_32 : decode cX5_mayRest 32 = .ok (.if_icmp .ne 7, 3) := dX5_mayRest_r32.1
theorem dX5_mayRest_35 : decode cX5_mayRest 35 = .ok (.iconst 1, 1) := dX5_mayRest_r32.2.1
theorem dX5_mayRest_36 : decode cX5_mayRest 36 = .ok (.goto 4, 3) := dX5_mayRest_r32.2.2.1
theorem dX5_mayRest_39 : decode cX5_mayRest 39 = .ok (.iconst 0, 1) := dX5_mayRest_r32.2.2.2.1
theorem dX5_mayRest_40 : decode cX5_mayRest 40 = .ok (.ireturn, 1) := dX5_mayRest_r32.2.2.2.2.1
def wp_55 (w0 : Nat) (y0 : Nat) (r0 : Nat) (m : zf_Me) (Q : Bool → zf_Me → Prop) : Prop := ((((m.1 w0 11)).toInt > 900 → Q false m) ∧ (((m.1 w0 11)).toInt ≤ 900 → ((((m.1 w0 10)).toInt = 0 → Q true m) ∧ (¬ ((m.1 w0 10)).toInt = 0 → ((0 ≤ (Int32.toInt ((m.1 w0 10) - 1)) ∧ (Int32.toInt ((m.1 w0 10) - 1)) < (24 : Int)) ∧ ((¬ ((m.1 (y0 + 2) (Int32.toInt ((m.1 w0 10) - 1)).toNat)).toInt = 1 → Q false m) ∧ (((m.1 (y0 + 2) (Int32.toInt ((m.1 w0 10) - 1)).toNat)).toInt = 1 → Q true m)))))))
theorem zr_55 {d : Nat} (hd : 0 ≤ d) {w0 : Nat} {y0 : Nat} {r0 : Nat} (hp0 : zf_walk w0 y0 r0) {Q : Bool → zf_Me → Prop} {m : zf_Me} (h : wp_55 w0 y0 r0 m Q) : zf_M d 55 [.inr (.inr (1, w0))] m (zf_B Q) := by
  unfold wp_55 at h
  refine zf_M_of (Nat.le_of_ble_eq_true rfl) zm_55 (L := [some (.inr (.inr (1, w0)))]) rfl ?_
  refine zf_ld (pc' := 1) (v := .inr (.inr (1, w0))) dX5_mayRest_0 rfl (fun _ _ _ => rfl) rfl rfl rfl ?_
  refine zf_gfi (pc' := 4) dX5_mayRest_1 rfl rfl hp0.1 hp0.2.1 rfl ?_
  refine zf_si (v := 900) (pc' := 7) dX5_mayRest_4 rfl rfl ?_
  refine zf_icmp_gt (tgt := 39) (pc' := 10) dX5_mayRest_7 rfl rfl (fun g => ?_) (fun g => ?_)
  · replace h := h.1 g
    refine zf_ic (v := 0) (pc' := 40) dX5_mayRest_39 rfl rfl ?_
    exact zf_rb (b := false) dX5_mayRest_40 rfl h
  · replace h := h.2 g
    refine zf_ld (pc' := 11) (v := .inr (.inr (1, w0))) dX5_mayRest_10 rfl (fun _ _ _ => rfl) rfl rfl rfl ?_
    refine zf_gfi (pc' := 14) dX5_mayRest_11 rfl rfl hp0.1 hp0.2.1 rfl ?_
    refine zf_if_eq (tgt := 35) (pc' := 17) dX5_mayRest_14 rfl rfl (fun g => ?_) (fun g => ?_)
    · replace h := h.1 g
      refine zf_ic (v := 1) (pc' := 36) dX5_mayRest_35 rfl rfl ?_
      refine zf_goto (tgt := 40) dX5_mayRest_36 rfl ?_
      exact zf_rb (b := true) dX5_mayRest_40 rfl h
    · replace h := h.2 g
      refine zf_ld (pc' := 18) (v := .inr (.inr (1, w0))) dX5_mayRest_17 rfl (fun _ _ _ => rfl) rfl rfl rfl ?_
      refine zf_gfr (pc' := 21) (b := y0) dX5_mayRest_18 rfl rfl hp0.1 hp0.2.1 rfl ?_
      refine zf_gfr (pc' := 24) (b := (y0 + 2)) dX5_mayRest_21 rfl rfl hp0.2.2.1.1 hp0.2.2.1.2.1 rfl ?_
      refine zf_ld (pc' := 25) (v := .inr (.inr (1, w0))) dX5_mayRest_24 rfl (fun _ _ _ => rfl) rfl rfl rfl ?_
      refine zf_gfi (pc' := 28) dX5_mayRest_25 rfl rfl hp0.1 hp0.2.1 rfl ?_
      refine zf_ic (v := 1) (pc' := 29) dX5_mayRest_28 rfl rfl ?_
      refine zf_in (pc' := 30) (S' := [.inl ((m.1 w0 10) - 1), .inr (.inr (1, (y0 + 2)))]) dX5_mayRest_29 rfl (fun _ _ _ => rfl) ?_
      refine zf_ial (pc' := 31) dX5_mayRest_30 rfl hp0.2.2.1.2.2.2.1.1 hp0.2.2.1.2.2.2.1.2 h.1 rfl ?_
      replace h := h.2
      refine zf_ic (v := 1) (pc' := 32) dX5_mayRest_31 rfl rfl ?_
      refine zf_icmp_ne (tgt := 39) (pc' := 35) dX5_mayRest_32 rfl rfl (fun g => ?_) (fun g => ?_)
      · replace h := h.1 g
        refine zf_ic (v := 0) (pc' := 40) dX5_mayRest_39 rfl rfl ?_
        exact zf_rb (b := false) dX5_mayRest_40 rfl h
      · replace h := h.2 g
        refine zf_ic (v := 1) (pc' := 36) dX5_mayRest_35 rfl rfl ?_
        refine zf_goto (tgt := 40) dX5_mayRest_36 rfl ?_
        exact zf_rb (b := true) dX5_mayRest_40 rfl h
def zt_65 : zx_MT := (6, yX6_hasPerson, cX6_hasPerson, 2, (some FieldType.boolean), 1, 0)
theorem zm_65 : zx_m 65 = zt_65 := rfl
theorem dX6_hasPerson_r0 : zdcP cX6_hasPerson 0 [(.iload_n 1, 1), (.ifCond .lt 15, 3), (.iload_n 1, 1), (.aload_n 0, 1), (.getfield 28, 3), (.if_icmp .ge 7, 3), (.iconst 1, 1), (.goto 4, 3), (.iconst 0, 1), (.ireturn, 1)] := zdcA_ok (by decide +kernel)
theorem dX6_hasPerson_0 : decode cX6_hasPerson 0 = .ok (.iload_n 1, 1) := dX6_hasPerson_r0.1
theorem dX6_hasPerson_1 : decode cX6_hasPerson 1 = .ok (.ifCond .lt 15, 3) := dX6_hasPerson_r0.2.1
theorem dX6_hasPerson_4 : decode cX6_hasPerson 4 = .ok (.iload_n 1, 1) := dX6_hasPerson_r0.2.2.1
theorem dX6_hasPerson_5 : decode cX6_hasPerson 5 = .ok (.aload_n 0, 1) := dX6_hasPerson_r0.2.2.2.1
theorem dX6_hasPerson_6 : decode cX6_hasPerson 6 = .ok (.getfield 28, 3) := dX6_hasPerson_r0.2.2.2.2.1
theorem dX6_hasPerson_9 : decode cX6_hasPerson 9 = .ok (.if_icmp .ge 7, 3) := dX6_hasPerson_r0.2.2.2.2.2.1
theorem dX6_hasPerson_12 : decode cX6_hasPerson 12 = .ok (.iconst 1, 1) := dX6_hasPerson_r0.2.2.2.2.2.2.1
theorem dX6_hasPerson_13 : decode cX6_hasPerson 13 = .ok (.goto 4, 3) := dX6_hasPerson_r0.2.2.2.2.2.2.2.1
theorem dX6_hasPerson_16 : decode cX6_hasPerson 16 = .ok (.iconst 0, 1) := dX6_hasPerson_r0.2.2.2.2.2.2.2.2.1
theorem dX6_hasPerson_17 : decode cX6_hasPerson 17 = .ok (.ireturn, 1) := dX6_hasPerson_r0.2.2.2.2.2.2.2.2.2.1
def wp_65 (y0 : Nat) (v1 : Int32) (m : zf_Me) (Q : Bool → zf_Me → Prop) : Prop := ((v1.toInt < 0 → Q false m) ∧ (v1.toInt ≥ 0 → ((v1.toInt ≥ ((m.1 y0 5)).toInt → Q false m) ∧ (v1.toInt < ((m.1 y0 5)).toInt → Q true m))))
theorem zr_65 {d : Nat} (hd : 0 ≤ d) {y0 : Nat} (hp0 : zf_way y0) {v1 : Int32} {Q : Bool → zf_Me → Prop} {m : zf_Me} (h : wp_65 y0 v1 m Q) : zf_M d 65 [.inr (.inr (1, y0)), .inl v1] m (zf_B Q) := by
  unfold wp_65 at h
  refine zf_M_of (Nat.le_of_ble_eq_true rfl) zm_65 (L := [some (.inr (.inr (1, y0))), some (.inl v1)]) rfl ?_
  refine zf_ld (pc' := 1) (v := .inl v1) dX6_hasPerson_0 rfl (fun _ _ _ => rfl) rfl rfl rfl ?_
  refine zf_if_lt (tgt := 16) (pc' := 4) dX6_hasPerson_1 rfl rfl (fun g => ?_) (fun g => ?_)
  · replace h := h.1 g
    refine zf_ic (v := 0) (pc' := 17) dX6_hasPerson_16 rfl rfl ?_
    exact zf_rb (b := false) dX6_hasPerson_17 rfl h
  · replace h := h.2 g
    refine zf_ld (pc' := 5) (v := .inl v1) dX6_hasPerson_4 rfl (fun _ _ _ => rfl) rfl rfl rfl ?_
    refine zf_ld (pc' := 6) (v := .inr (.inr (1, y0))) dX6_hasPerson_5 rfl (fun _ _ _ => rfl) rfl rfl rfl ?_
    refine zf_gfi (pc' := 9) dX6_hasPerson_6 rfl rfl hp0.1 hp0.2.1 rfl ?_
    refine zf_icmp_ge (tgt := 16) (pc' := 12) dX6_hasPerson_9 rfl rfl (fun g => ?_) (fun g => ?_)
    · replace h := h.1 g
      refine zf_ic (v := 0) (pc' := 17) dX6_hasPerson_16 rfl rfl ?_
      exact zf_rb (b := false) dX6_hasPerson_17 rfl h
    · replace h := h.2 g
      refine zf_ic (v := 1) (pc' := 13) dX6_hasPerson_12 rfl rfl ?_
      refine zf_goto (tgt := 17) dX6_hasPerson_13 rfl ?_
      exact zf_rb (b := true) dX6_hasPerson_17 rfl h
def zt_51 : zx_MT := (5, yX5_loadOnSlope, cX5_loadOnSlope, 5, (some FieldType.int), 2, 0)
theorem zm_51 : zx_m 51 = zt_51 := rfl
theorem dX5_loadOnSlope_r0 : zdcP cX5_loadOnSlope 0 [(.aload_n 0, 1), (.getfield 49, 3), (.getfield 59, 3), (.iload_n 1, 1), (.iaload, 1), (.istore_n 3, 1), (.iconst 4, 1), (.iload_n 2, 1), (.iadd, 1), (.getstatic 82, 3), (.iload_n 3, 1), (.iaload, 1), (.iadd, 1), (.istore 4, 2), (.iload_n 3, 1), (.bipush 6, 2)] := zdcA_ok (by decide +kernel)
theorem dX5_loadOnSlope_0 : decode cX5_loadOnSlope 0 = .ok (.aload_n 0, 1) := dX5_loadOnSlope_r0.1
theorem dX5_loadOnSlope_1 : decode cX5_loadOnSlope 1 = .ok (.getfield 49, 3) := dX5_loadOnSlope_r0.2.1
theorem dX5_loadOnSlope_4 : decode cX5_loadOnSlope 4 = .ok (.getfield 59, 3) := dX5_loadOnSlope_r0.2.2.1
theorem dX5_loadOnSlope_7 : decode cX5_loadOnSlope 7 = .ok (.iload_n 1, 1) := dX5_loadOnSlope_r0.2.2.2.1
theorem dX5_loadOnSlope_8 : decode cX5_loadOnSlope 8 = .ok (.iaload, 1) := dX5_loadOnSlope_r0.2.2.2.2.1
theorem dX5_loadOnSlope_9 : decode cX5_loadOnSlope 9 = .ok (.istore_n 3, 1) := dX5_loadOnSlope_r0.2.2.2.2.2.1
theorem dX5_loadOnSlope_10 : decode cX5_loadOnSlope 10 = .ok (.iconst 4, 1) := dX5_loadOnSlope_r0.2.2.2.2.2.2.1
theorem dX5_loadOnSlope_11 : decode cX5_loadOnSlope 11 = .ok (.iload_n 2, 1) := dX5_loadOnSlope_r0.2.2.2.2.2.2.2.1
theorem dX5_loadOnSlope_12 : decode cX5_loadOnSlope 12 = .ok (.iadd, 1) := dX5_loadOnSlope_r0.2.2.2.2.2.2.2.2.1
theorem dX5_loadOnSlope_13 : decode cX5_loadOnSlope 13 = .ok (.getstatic 82, 3) := dX5_loadOnSlope_r0.2.2.2.2.2.2.2.2.2.1
theorem dX5_loadOnSlope_16 : decode cX5_loadOnSlope 16 = .ok (.iload_n 3, 1) := dX5_loadOnSlope_r0.2.2.2.2.2.2.2.2.2.2.1
theorem dX5_loadOnSlope_17 : decode cX5_loadOnSlope 17 = .ok (.iaload, 1) := dX5_loadOnSlope_r0.2.2.2.2.2.2.2.2.2.2.2.1
theorem dX5_loadOnSlope_18 : decode cX5_loadOnSlope 18 = .ok (.iadd, 1) := dX5_loadOnSlope_r0.2.2.2.2.2.2.2.2.2.2.2.2.1
theorem dX5_loadOnSlope_19 : decode cX5_loadOnSlope 19 = .ok (.istore 4, 2) := dX5_loadOnSlope_r0.2.2.2.2.2.2.2.2.2.2.2.2.2.1
theorem dX5_loadOnSlope_21 : decode cX5_loadOnSlope 21 = .ok (.iload_n 3, 1) := dX5_loadOnSlope_r0.2.2.2.2.2.2.2.2.2.2.2.2.2.2.1
theorem dX5_loadOnSlope_22 : decode cX5_loadOnSlope 22 = .ok (.bipush 6, 2) := dX5_loadOnSlope_r0.2.2.2.2.2.2.2.2.2.2.2.2.2.2.2.1
theorem dX5_loadOnSlope_r24 : zdcP cX5_loadOnSlope 24 [(.if_icmp .ne 17, 3), (.iload 4, 2), (.aload_n 0, 1), (.getfield 9, 3), (.iload_n 1, 1), (.iaload, 1), (.bipush 10, 2), (.idiv, 1), (.iadd, 1), (.istore 4, 2), (.aload_n 0, 1), (.getfield 15, 3), (.iload_n 1, 1), (.if_icmp .ne 6, 3), (.iinc 4 2, 3), (.iload 4, 2)] := zdcA_ok (by decide +kernel)
theorem dX5_loadOnSlope_24 : decode cX5_loadOnSlope 24 = .ok (.if_icmp .ne 17, 3) := dX5_loadOnSlope_r24.1
theorem dX5_loadOnSlope_27 : decode cX5_loadOnSlope 27 = .ok (.iload 4, 2) := dX5_loadOnSlope_r24.2.1
theorem dX5_loadOnSlope_29 : decode cX5_loadOnSlope 29 = .ok (.aload_n 0, 1) := dX5_loadOnSlope_r24.2.2.1
theorem dX5_loadOnSlope_30 : decode cX5_loadOnSlope 30 = .ok (.getfield 9, 3) := dX5_loadOnSlope_r24.2.2.2.1
theorem dX5_loadOnSlope_33 : decode cX5_loadOnSlope 33 = .ok (.iload_n 1, 1) := dX5_loadOnSlope_r24.2.2.2.2.1
theorem dX5_loadOnSlope_34 : decode cX5_loadOnSlope 34 = .ok (.iaload, 1) := dX5_loadOnSlope_r24.2.2.2.2.2.1
theorem dX5_loadOnSlope_35 : decode cX5_loadOnSlope 35 = .ok (.bipush 10, 2) := dX5_loadOnSlope_r24.2.2.2.2.2.2.1
theorem dX5_loadOnSlope_37 : decode cX5_loadOnSlope 37 = .ok (.idiv, 1) := dX5_loadOnSlope_r24.2.2.2.2.2.2.2.1
theorem dX5_loadOnSlope_38 : decode cX5_loadOnSlope 38 = .ok (.iadd, 1) := dX5_loadOnSlope_r24.2.2.2.2.2.2.2.2.1
theorem dX5_loadOnSlope_39 : decode cX5_loadOnSlope 39 = .ok (.istore 4, 2) := dX5_loadOnSlope_r24.2.2.2.2.2.2.2.2.2.1
theorem dX5_loadOnSlope_41 : decode cX5_loadOnSlope 41 = .ok (.aload_n 0, 1) := dX5_loadOnSlope_r24.2.2.2.2.2.2.2.2.2.2.1
theorem dX5_loadOnSlope_42 : decode cX5_loadOnSlope 42 = .ok (.getfield 15, 3) := dX5_loadOnSlope_r24.2.2.2.2.2.2.2.2.2.2.2.1
theorem dX5_loadOnSlope_45 : decode cX5_loadOnSlope 45 = .ok (.iload_n 1, 1) := dX5_loadOnSlope_r24.2.2.2.2.2.2.2.2.2.2.2.2.1
theorem dX5_loadOnSlope_46 : decode cX5_loadOnSlope 46 = .ok (.if_icmp .ne 6, 3) := dX5_loadOnSlope_r24.2.2.2.2.2.2.2.2.2.2.2.2.2.1
theorem dX5_loadOnSlope_49 : decode cX5_loadOnSlope 49 = .ok (.iinc 4 2, 3) := dX5_loadOnSlope_r24.2.2.2.2.2.2.2.2.2.2.2.2.2.2.1
theorem dX5_loadOnSlope_52 : decode cX5_loadOnSlope 52 = .ok (.iload 4, 2) := dX5_loadOnSlope_r24.2.2.2.2.2.2.2.2.2.2.2.2.2.2.2.1
theorem dX5_loadOnSlope_r54 : zdcP cX5_loadOnSlope 54 [(.iconst 1, 1), (.if_icmp .ge 7, 3), (.iconst 1, 1), (.goto 5, 3), (.iload 4, 2), (.ireturn, 1)] := zdcA_ok (by decide +kernel)
theorem dX5_loadOnSlope_54 : decode cX5_loadOnSlope 54 = .ok (.iconst 1, 1) := dX5_loadOnSlope_r54.1
theorem dX5_loadOnSlope_55 : decode cX5_loadOnSlope 55 = .ok (.if_icmp .ge 7, 3) := dX5_loadOnSlope_r54.2.1
theorem dX5_loadOnSlope_58 : decode cX5_loadOnSlope 58 = .ok (.iconst 1, 1) := dX5_loadOnSlope_r54.2.2.1
theorem dX5_loadOnSlope_59 : decode cX5_loadOnSlope 59 = .ok (.goto 5, 3) := dX5_loadOnSlope_r54.2.2.2.1
theorem dX5_loadOnSlope_62 : decode cX5_loadOnSlope 62 = .ok (.iload 4, 2) := dX5_loadOnSlope_r54.2.2.2.2.1
theorem dX5_loadOnSlope_64 : decode cX5_loadOnSlope 64 = .ok (.ireturn, 1) := dX5_loadOnSlope_r54.2.2.2.2.2.1
def wq_51_52 (w0 : Nat) (y0 : Nat) (r0 : Nat) (v1 : Int32) (v2 : Int32) (v4 : Int32) (m : zf_Me) (Q : Int32 → zf_Me → Prop) : Prop := ((v4.toInt ≥ 1 → Q v4 m) ∧ (v4.toInt < 1 → Q 1 m))
theorem zq_51_52 {d : Nat} (hd : 0 ≤ d) {w0 : Nat} {y0 : Nat} {r0 : Nat} (hp0 : zf_walk w0 y0 r0) {v1 : Int32} {v2 : Int32} {Q : Int32 → zf_Me → Prop} {v4 : Int32} {m : zf_Me} (h : wq_51_52 w0 y0 r0 v1 v2 v4 m Q) : zf_W none 0 0 d zt_51 52 [none, none, none, none, some (.inl v4)] [] m (zf_I Q) := by
  unfold wq_51_52 at h
  refine zf_ld (pc' := 54) (v := .inl v4) dX5_loadOnSlope_52 rfl (fun _ _ _ => rfl) rfl rfl rfl ?_
  refine zf_ic (v := 1) (pc' := 55) dX5_loadOnSlope_54 rfl rfl ?_
  refine zf_icmp_ge (tgt := 62) (pc' := 58) dX5_loadOnSlope_55 rfl rfl (fun g => ?_) (fun g => ?_)
  · replace h := h.1 g
    refine zf_ld (pc' := 64) (v := .inl v4) dX5_loadOnSlope_62 rfl (fun _ _ _ => rfl) rfl rfl rfl ?_
    exact zf_ri dX5_loadOnSlope_64 rfl h
  · replace h := h.2 g
    refine zf_ic (v := 1) (pc' := 59) dX5_loadOnSlope_58 rfl rfl ?_
    refine zf_goto (tgt := 64) dX5_loadOnSlope_59 rfl ?_
    exact zf_ri dX5_loadOnSlope_64 rfl h
def wq_51_41 (w0 : Nat) (y0 : Nat) (r0 : Nat) (v1 : Int32) (v2 : Int32) (v4 : Int32) (m : zf_Me) (Q : Int32 → zf_Me → Prop) : Prop := ((¬ ((m.1 w0 2)).toInt = v1.toInt → wq_51_52 w0 y0 r0 v1 v2 v4 m Q) ∧ (((m.1 w0 2)).toInt = v1.toInt → wq_51_52 w0 y0 r0 v1 v2 (v4 + 2) m Q))
theorem zq_51_41 {d : Nat} (hd : 0 ≤ d) {w0 : Nat} {y0 : Nat} {r0 : Nat} (hp0 : zf_walk w0 y0 r0) {v1 : Int32} {v2 : Int32} {Q : Int32 → zf_Me → Prop} {v4 : Int32} {m : zf_Me} (h : wq_51_41 w0 y0 r0 v1 v2 v4 m Q) : zf_W none 0 0 d zt_51 41 [some (.inr (.inr (1, w0))), some (.inl v1), none, none, some (.inl v4)] [] m (zf_I Q) := by
  unfold wq_51_41 at h
  refine zf_ld (pc' := 42) (v := .inr (.inr (1, w0))) dX5_loadOnSlope_41 rfl (fun _ _ _ => rfl) rfl rfl rfl ?_
  refine zf_gfi (pc' := 45) dX5_loadOnSlope_42 rfl rfl hp0.1 hp0.2.1 rfl ?_
  refine zf_ld (pc' := 46) (v := .inl v1) dX5_loadOnSlope_45 rfl (fun _ _ _ => rfl) rfl rfl rfl ?_
  refine zf_icmp_ne (tgt := 52) (pc' := 49) dX5_loadOnSlope_46 rfl rfl (fun g => ?_) (fun g => ?_)
  · replace h := h.1 g
    exact zf_lo (zq_51_52 (by omega) hp0 h) ⟨rfl, trivial⟩
  · replace h := h.2 g
    refine zf_ii (y := (v4 + 2)) (L2 := [some (.inr (.inr (1, w0))), some (.inl v1), none, none, some (.inl (v4 + 2))]) (pc' := 52) dX5_loadOnSlope_49 rfl rfl rfl rfl rfl ?_
    exact zf_lo (zq_51_52 (by omega) hp0 h) ⟨rfl, trivial⟩
def wp_51 (w0 : Nat) (y0 : Nat) (r0 : Nat) (v1 : Int32) (v2 : Int32) (m : zf_Me) (Q : Int32 → zf_Me → Prop) : Prop := ((0 ≤ (Int32.toInt v1) ∧ (Int32.toInt v1) < (6 : Int)) ∧ ((0 ≤ ((m.1 (y0 + 3) (Int32.toInt v1).toNat)).toInt ∧ ((m.1 (y0 + 3) (Int32.toInt v1).toNat)).toInt < 7) ∧ ((¬ ((m.1 (y0 + 3) (Int32.toInt v1).toNat)).toInt = 6 → wq_51_41 w0 y0 r0 v1 v2 ((4 + v2) + ((zx_sa.getD 1 []).getD (Int32.toInt (m.1 (y0 + 3) (Int32.toInt v1).toNat)).toNat 0)) m Q) ∧ (((m.1 (y0 + 3) (Int32.toInt v1).toNat)).toInt = 6 → ((0 ≤ (Int32.toInt v1) ∧ (Int32.toInt v1) < (6 : Int)) ∧ wq_51_41 w0 y0 r0 v1 v2 (((4 + v2) + ((zx_sa.getD 1 []).getD (Int32.toInt (m.1 (y0 + 3) (Int32.toInt v1).toNat)).toNat 0)) + ((m.1 r0 (Int32.toInt v1).toNat) / 10)) m Q)))))
theorem zr_51 {d : Nat} (hd : 0 ≤ d) {w0 : Nat} {y0 : Nat} {r0 : Nat} (hp0 : zf_walk w0 y0 r0) {v1 : Int32} {v2 : Int32} {Q : Int32 → zf_Me → Prop} {m : zf_Me} (h : wp_51 w0 y0 r0 v1 v2 m Q) : zf_M d 51 [.inr (.inr (1, w0)), .inl v1, .inl v2] m (zf_I Q) := by
  unfold wp_51 at h
  refine zf_M_of (Nat.le_of_ble_eq_true rfl) zm_51 (L := [some (.inr (.inr (1, w0))), some (.inl v1), some (.inl v2), none, none]) rfl ?_
  refine zf_ld (pc' := 1) (v := .inr (.inr (1, w0))) dX5_loadOnSlope_0 rfl (fun _ _ _ => rfl) rfl rfl rfl ?_
  refine zf_gfr (pc' := 4) (b := y0) dX5_loadOnSlope_1 rfl rfl hp0.1 hp0.2.1 rfl ?_
  refine zf_gfr (pc' := 7) (b := (y0 + 3)) dX5_loadOnSlope_4 rfl rfl hp0.2.2.1.1 hp0.2.2.1.2.1 rfl ?_
  refine zf_ld (pc' := 8) (v := .inl v1) dX5_loadOnSlope_7 rfl (fun _ _ _ => rfl) rfl rfl rfl ?_
  refine zf_ial (pc' := 9) dX5_loadOnSlope_8 rfl hp0.2.2.1.2.2.2.2.1.1 hp0.2.2.1.2.2.2.2.1.2 h.1 rfl ?_
  replace h := h.2
  refine zf_st (pc' := 10) (L2 := [some (.inr (.inr (1, w0))), some (.inl v1), some (.inl v2), some (.inl (m.1 (y0 + 3) (Int32.toInt v1).toNat)), none]) dX5_loadOnSlope_9 rfl (fun _ _ _ => rfl) rfl rfl rfl rfl rfl rfl ?_
  refine zf_ic (v := 4) (pc' := 11) dX5_loadOnSlope_10 rfl rfl ?_
  refine zf_ld (pc' := 12) (v := .inl v2) dX5_loadOnSlope_11 rfl (fun _ _ _ => rfl) rfl rfl rfl ?_
  refine zf_in (pc' := 13) (S' := [.inl (4 + v2)]) dX5_loadOnSlope_12 rfl (fun _ _ _ => rfl) ?_
  refine zf_gs (g := 1) (pc' := 16) dX5_loadOnSlope_13 rfl rfl rfl ?_
  refine zf_ld (pc' := 17) (v := .inl (m.1 (y0 + 3) (Int32.toInt v1).toNat)) dX5_loadOnSlope_16 rfl (fun _ _ _ => rfl) rfl rfl rfl ?_
  refine zf_ials (pc' := 18) dX5_loadOnSlope_17 rfl (by decide) (n := 7) rfl h.1 ?_
  replace h := h.2
  refine zf_in (pc' := 19) (S' := [.inl ((4 + v2) + ((zx_sa.getD 1 []).getD (Int32.toInt (m.1 (y0 + 3) (Int32.toInt v1).toNat)).toNat 0))]) dX5_loadOnSlope_18 rfl (fun _ _ _ => rfl) ?_
  refine zf_st (pc' := 21) (L2 := [some (.inr (.inr (1, w0))), some (.inl v1), some (.inl v2), some (.inl (m.1 (y0 + 3) (Int32.toInt v1).toNat)), some (.inl ((4 + v2) + ((zx_sa.getD 1 []).getD (Int32.toInt (m.1 (y0 + 3) (Int32.toInt v1).toNat)).toNat 0)))]) dX5_loadOnSlope_19 rfl (fun _ _ _ => rfl) rfl rfl rfl rfl rfl rfl ?_
  refine zf_ld (pc' := 22) (v := .inl (m.1 (y0 + 3) (Int32.toInt v1).toNat)) dX5_loadOnSlope_21 rfl (fun _ _ _ => rfl) rfl rfl rfl ?_
  refine zf_bi (v := 6) (pc' := 24) dX5_loadOnSlope_22 rfl rfl ?_
  refine zf_icmp_ne (tgt := 41) (pc' := 27) dX5_loadOnSlope_24 rfl rfl (fun g => ?_) (fun g => ?_)
  · replace h := h.1 g
    exact zf_lo (zq_51_41 (by omega) hp0 h) ⟨rfl, rfl, rfl, trivial⟩
  · replace h := h.2 g
    refine zf_ld (pc' := 29) (v := .inl ((4 + v2) + ((zx_sa.getD 1 []).getD (Int32.toInt (m.1 (y0 + 3) (Int32.toInt v1).toNat)).toNat 0))) dX5_loadOnSlope_27 rfl (fun _ _ _ => rfl) rfl rfl rfl ?_
    refine zf_ld (pc' := 30) (v := .inr (.inr (1, w0))) dX5_loadOnSlope_29 rfl (fun _ _ _ => rfl) rfl rfl rfl ?_
    refine zf_gfr (pc' := 33) (b := r0) dX5_loadOnSlope_30 rfl rfl hp0.1 hp0.2.1 rfl ?_
    refine zf_ld (pc' := 34) (v := .inl v1) dX5_loadOnSlope_33 rfl (fun _ _ _ => rfl) rfl rfl rfl ?_
    refine zf_ial (pc' := 35) dX5_loadOnSlope_34 rfl hp0.2.2.2.1 hp0.2.2.2.2 h.1 rfl ?_
    replace h := h.2
    refine zf_bi (v := 10) (pc' := 37) dX5_loadOnSlope_35 rfl rfl ?_
    refine zf_div (pc' := 38) dX5_loadOnSlope_37 rfl (by decide) ?_
    refine zf_in (pc' := 39) (S' := [.inl (((4 + v2) + ((zx_sa.getD 1 []).getD (Int32.toInt (m.1 (y0 + 3) (Int32.toInt v1).toNat)).toNat 0)) + ((m.1 r0 (Int32.toInt v1).toNat) / 10))]) dX5_loadOnSlope_38 rfl (fun _ _ _ => rfl) ?_
    refine zf_st (pc' := 41) (L2 := [some (.inr (.inr (1, w0))), some (.inl v1), some (.inl v2), some (.inl (m.1 (y0 + 3) (Int32.toInt v1).toNat)), some (.inl (((4 + v2) + ((zx_sa.getD 1 []).getD (Int32.toInt (m.1 (y0 + 3) (Int32.toInt v1).toNat)).toNat 0)) + ((m.1 r0 (Int32.toInt v1).toNat) / 10)))]) dX5_loadOnSlope_39 rfl (fun _ _ _ => rfl) rfl rfl rfl rfl rfl rfl ?_
    exact zf_lo (zq_51_41 (by omega) hp0 h) ⟨rfl, rfl, rfl, trivial⟩
def zt_53 : zx_MT := (5, yX5_mayCarry, cX5_mayCarry, 4, (some FieldType.boolean), 1, 0)
theorem zm_53 : zx_m 53 = zt_53 := rfl
theorem dX5_mayCarry_r0 : zdcP cX5_mayCarry 0 [(.aload_n 0, 1), (.getfield 49, 3), (.iload_n 1, 1), (.invokevirtual 96, 3), (.ifCond .eq 10, 3), (.aload_n 0, 1), (.invokevirtual 99, 3), (.ifCond .eq 5, 3), (.iconst 0, 1), (.ireturn, 1), (.aload_n 0, 1), (.getfield 49, 3), (.getfield 59, 3), (.iload_n 1, 1), (.iaload, 1), (.istore_n 2, 1)] := zdcA_ok (by decide +kernel)
theorem dX5_mayCarry_0 : decode cX5_mayCarry 0 = .ok (.aload_n 0, 1) := dX5_mayCarry_r0.1
theorem dX5_mayCarry_1 : decode cX5_mayCarry 1 = .ok (.getfield 49, 3) := dX5_mayCarry_r0.2.1
theorem dX5_mayCarry_4 : decode cX5_mayCarry 4 = .ok (.iload_n 1, 1) := dX5_mayCarry_r0.2.2.1
theorem dX5_mayCarry_5 : decode cX5_mayCarry 5 = .ok (.invokevirtual 96, 3) := dX5_mayCarry_r0.2.2.2.1
theorem dX5_mayCarry_8 : decode cX5_mayCarry 8 = .ok (.ifCond .eq 10, 3) := dX5_mayCarry_r0.2.2.2.2.1
theorem dX5_mayCarry_11 : decode cX5_mayCarry 11 = .ok (.aload_n 0, 1) := dX5_mayCarry_r0.2.2.2.2.2.1
theorem dX5_mayCarry_12 : decode cX5_mayCarry 12 = .ok (.invokevirtual 99, 3) := dX5_mayCarry_r0.2.2.2.2.2.2.1
theorem dX5_mayCarry_15 : decode cX5_mayCarry 15 = .ok (.ifCond .eq 5, 3) := dX5_mayCarry_r0.2.2.2.2.2.2.2.1
theorem dX5_mayCarry_18 : decode cX5_mayCarry 18 = .ok (.iconst 0, 1) := dX5_mayCarry_r0.2.2.2.2.2.2.2.2.1
theorem dX5_mayCarry_19 : decode cX5_mayCarry 19 = .ok (.ireturn, 1) := dX5_mayCarry_r0.2.2.2.2.2.2.2.2.2.1
theorem dX5_mayCarry_20 : decode cX5_mayCarry 20 = .ok (.aload_n 0, 1) := dX5_mayCarry_r0.2.2.2.2.2.2.2.2.2.2.1
theorem dX5_mayCarry_21 : decode cX5_mayCarry 21 = .ok (.getfield 49, 3) := dX5_mayCarry_r0.2.2.2.2.2.2.2.2.2.2.2.1
theorem dX5_mayCarry_24 : decode cX5_mayCarry 24 = .ok (.getfield 59, 3) := dX5_mayCarry_r0.2.2.2.2.2.2.2.2.2.2.2.2.1
theorem dX5_mayCarry_27 : decode cX5_mayCarry 27 = .ok (.iload_n 1, 1) := dX5_mayCarry_r0.2.2.2.2.2.2.2.2.2.2.2.2.2.1
theorem dX5_mayCarry_28 : decode cX5_mayCarry 28 = .ok (.iaload, 1) := dX5_mayCarry_r0.2.2.2.2.2.2.2.2.2.2.2.2.2.2.1
theorem dX5_mayCarry_29 : decode cX5_mayCarry 29 = .ok (.istore_n 2, 1) := dX5_mayCarry_r0.2.2.2.2.2.2.2.2.2.2.2.2.2.2.2.1
theorem dX5_mayCarry_r30 : zdcP cX5_mayCarry 30 [(.aload_n 0, 1), (.getfield 49, 3), (.getfield 102, 3), (.aload_n 0, 1), (.getfield 40, 3), (.iaload, 1), (.istore_n 3, 1), (.iload_n 2, 1), (.iconst 2, 1), (.if_icmp .eq 8, 3), (.iload_n 2, 1), (.iconst 5, 1), (.if_icmp .ne 12, 3), (.aload_n 0, 1), (.invokevirtual 105, 3), (.ifCond .ne 5, 3)] := zdcA_ok (by decide +kernel)
theorem dX5_mayCarry_30 : decode cX5_mayCarry 30 = .ok (.aload_n 0, 1) := dX5_mayCarry_r30.1
theorem dX5_mayCarry_31 : decode cX5_mayCarry 31 = .ok (.getfield 49, 3) := dX5_mayCarry_r30.2.1
theorem dX5_mayCarry_34 : decode cX5_mayCarry 34 = .ok (.getfield 102, 3) := dX5_mayCarry_r30.2.2.1
theorem dX5_mayCarry_37 : decode cX5_mayCarry 37 = .ok (.aload_n 0, 1) := dX5_mayCarry_r30.2.2.2.1
theorem dX5_mayCarry_38 : decode cX5_mayCarry 38 = .ok (.getfield 40, 3) := dX5_mayCarry_r30.2.2.2.2.1
theorem dX5_mayCarry_41 : decode cX5_mayCarry 41 = .ok (.iaload, 1) := dX5_mayCarry_r30.2.2.2.2.2.1
theorem dX5_mayCarry_42 : decode cX5_mayCarry 42 = .ok (.istore_n 3, 1) := dX5_mayCarry_r30.2.2.2.2.2.2.1
theorem dX5_mayCarry_43 : decode cX5_mayCarry 43 = .ok (.iload_n 2, 1) := dX5_mayCarry_r30.2.2.2.2.2.2.2.1
theorem dX5_mayCarry_44 : decode cX5_mayCarry 44 = .ok (.iconst 2, 1) := dX5_mayCarry_r30.2.2.2.2.2.2.2.2.1
theorem dX5_mayCarry_45 : decode cX5_mayCarry 45 = .ok (.if_icmp .eq 8, 3) := dX5_mayCarry_r30.2.2.2.2.2.2.2.2.2.1
theorem dX5_mayCarry_48 : decode cX5_mayCarry 48 = .ok (.iload_n 2, 1) := dX5_mayCarry_r30.2.2.2.2.2.2.2.2.2.2.1
theorem dX5_mayCarry_49 : decode cX5_mayCarry 49 = .ok (.iconst 5, 1) := dX5_mayCarry_r30.2.2.2.2.2.2.2.2.2.2.2.1
theorem dX5_mayCarry_50 : decode cX5_mayCarry 50 = .ok (.if_icmp .ne 12, 3) := dX5_mayCarry_r30.2.2.2.2.2.2.2.2.2.2.2.2.1
theorem dX5_mayCarry_53 : decode cX5_mayCarry 53 = .ok (.aload_n 0, 1) := dX5_mayCarry_r30.2.2.2.2.2.2.2.2.2.2.2.2.2.1
theorem dX5_mayCarry_54 : decode cX5_mayCarry 54 = .ok (.invokevirtual 105, 3) := dX5_mayCarry_r30.2.2.2.2.2.2.2.2.2.2.2.2.2.2.1
theorem dX5_mayCarry_57 : decode cX5_mayCarry 57 = .ok (.ifCond .ne 5, 3) := dX5_mayCarry_r30.2.2.2.2.2.2.2.2.2.2.2.2.2.2.2.1
theorem dX5_mayCarry_r60 : zdcP cX5_mayCarry 60 [(.iconst 0, 1), (.ireturn, 1), (.iload_n 2, 1), (.bipush 6, 2), (.if_icmp .ne 10, 3), (.iload_n 3, 1), (.iconst 1, 1), (.if_icmp .le 5, 3), (.iconst 0, 1), (.ireturn, 1), (.aload_n 0, 1), (.getfield 9, 3), (.iload_n 1, 1), (.iaload, 1), (.aload_n 0, 1), (.iload_n 1, 1)] := zdcA_ok (by decide +kernel)
theorem dX5_mayCarry_60 : decode cX5_mayCarry 60 = .ok (.iconst 0, 1) := dX5_mayCarry_r60.1
theorem dX5_mayCarry_61 : decode cX5_mayCarry 61 = .ok (.ireturn, 1) := dX5_mayCarry_r60.2.1
theorem dX5_mayCarry_62 : decode cX5_mayCarry 62 = .ok (.iload_n 2, 1) := dX5_mayCarry_r60.2.2.1
theorem dX5_mayCarry_63 : decode cX5_mayCarry 63 = .ok (.bipush 6, 2) := dX5_mayCarry_r60.2.2.2.1
theorem dX5_mayCarry_65 : decode cX5_mayCarry 65 = .ok (.if_icmp .ne 10, 3) := dX5_mayCarry_r60.2.2.2.2.1
theorem dX5_mayCarry_68 : decode cX5_mayCarry 68 = .ok (.iload_n 3, 1) := dX5_mayCarry_r60.2.2.2.2.2.1
theorem dX5_mayCarry_69 : decode cX5_mayCarry 69 = .ok (.iconst 1, 1) := dX5_mayCarry_r60.2.2.2.2.2.2.1
theorem dX5_mayCarry_70 : decode cX5_mayCarry 70 = .ok (.if_icmp .le 5, 3) := dX5_mayCarry_r60.2.2.2.2.2.2.2.1
theorem dX5_mayCarry_73 : decode cX5_mayCarry 73 = .ok (.iconst 0, 1) := dX5_mayCarry_r60.2.2.2.2.2.2.2.2.1
theorem dX5_mayCarry_74 : decode cX5_mayCarry 74 = .ok (.ireturn, 1) := dX5_mayCarry_r60.2.2.2.2.2.2.2.2.2.1
theorem dX5_mayCarry_75 : decode cX5_mayCarry 75 = .ok (.aload_n 0, 1) := dX5_mayCarry_r60.2.2.2.2.2.2.2.2.2.2.1
theorem dX5_mayCarry_76 : decode cX5_mayCarry 76 = .ok (.getfield 9, 3) := dX5_mayCarry_r60.2.2.2.2.2.2.2.2.2.2.2.1
theorem dX5_mayCarry_79 : decode cX5_mayCarry 79 = .ok (.iload_n 1, 1) := dX5_mayCarry_r60.2.2.2.2.2.2.2.2.2.2.2.2.1
theorem dX5_mayCarry_80 : decode cX5_mayCarry 80 = .ok (.iaload, 1) := dX5_mayCarry_r60.2.2.2.2.2.2.2.2.2.2.2.2.2.1
theorem dX5_mayCarry_81 : decode cX5_mayCarry 81 = .ok (.aload_n 0, 1) := dX5_mayCarry_r60.2.2.2.2.2.2.2.2.2.2.2.2.2.2.1
theorem dX5_mayCarry_82 : decode cX5_mayCarry 82 = .ok (.iload_n 1, 1) := dX5_mayCarry_r60.2.2.2.2.2.2.2.2.2.2.2.2.2.2.2.1
theorem dX5_mayCarry_r83 : zdcP cX5_mayCarry 83 [(.iload_n 3, 1), (.invokevirtual 108, 3), (.iadd, 1), (.aload_n 0, 1), (.getfield 37, 3), (.if_icmp .gt 7, 3), (.iconst 1, 1), (.goto 4, 3), (.iconst 0, 1), (.ireturn, 1)] := zdcA_ok (by decide +kernel)
theorem dX5_mayCarry_83 : decode cX5_mayCarry 83 = .ok (.iload_n 3, 1) := dX5_mayCarry_r83.1
theorem dX5_mayCarry_84 : decode cX5_mayCarry 84 = .ok (.invokevirtual 108, 3) := dX5_mayCarry_r83.2.1
theorem dX5_mayCarry_87 : decode cX5_mayCarry 87 = .ok (.iadd, 1) := dX5_mayCarry_r83.2.2.1
theorem dX5_mayCarry_88 : decode cX5_mayCarry 88 = .ok (.aload_n 0, 1) := dX5_mayCarry_r83.2.2.2.1
theorem dX5_mayCarry_89 : decode cX5_mayCarry 89 = .ok (.getfield 37, 3) := dX5_mayCarry_r83.2.2.2.2.1
theorem dX5_mayCarry_92 : decode cX5_mayCarry 92 = .ok (.if_icmp .gt 7, 3) := dX5_mayCarry_r83.2.2.2.2.2.1
theorem dX5_mayCarry_95 : decode cX5_mayCarry 95 = .ok (.iconst 1, 1) := dX5_mayCarry_r83.2.2.2.2.2.2.1
theorem dX5_mayCarry_96 : decode cX5_mayCarry 96 = .ok (.goto 4, 3) := dX5_mayCarry_r83.2.2.2.2.2.2.2.1
theorem dX5_mayCarry_99 : decode cX5_mayCarry 99 = .ok (.iconst 0, 1) := dX5_mayCarry_r83.2.2.2.2.2.2.2.2.1
theorem dX5_mayCarry_100 : decode cX5_mayCarry 100 = .ok (.ireturn, 1) := dX5_mayCarry_r83.2.2.2.2.2.2.2.2.2.1
def wq_53_75 (w0 : Nat) (y0 : Nat) (r0 : Nat) (v1 : Int32) (v3 : Int32) (m : zf_Me) (Q : Bool → zf_Me → Prop) : Prop := ((0 ≤ (Int32.toInt v1) ∧ (Int32.toInt v1) < (6 : Int)) ∧ wp_51 w0 y0 r0 v1 v3 m (fun x7 m8 => (((((m.1 r0 (Int32.toInt v1).toNat) + x7)).toInt > ((m8.1 w0 9)).toInt → Q false m8) ∧ ((((m.1 r0 (Int32.toInt v1).toNat) + x7)).toInt ≤ ((m8.1 w0 9)).toInt → Q true m8))))
theorem zq_53_75 {d : Nat} (hd : 1 ≤ d) {w0 : Nat} {y0 : Nat} {r0 : Nat} (hp0 : zf_walk w0 y0 r0) {v1 : Int32} {Q : Bool → zf_Me → Prop} {v3 : Int32} {m : zf_Me} (h : wq_53_75 w0 y0 r0 v1 v3 m Q) : zf_W none 0 0 d zt_53 75 [some (.inr (.inr (1, w0))), some (.inl v1), none, some (.inl v3)] [] m (zf_B Q) := by
  obtain ⟨e, rfl⟩ : ∃ z, d = z + 1 := ⟨d - 1, by omega⟩
  unfold wq_53_75 at h
  refine zf_ld (pc' := 76) (v := .inr (.inr (1, w0))) dX5_mayCarry_75 rfl (fun _ _ _ => rfl) rfl rfl rfl ?_
  refine zf_gfr (pc' := 79) (b := r0) dX5_mayCarry_76 rfl rfl hp0.1 hp0.2.1 rfl ?_
  refine zf_ld (pc' := 80) (v := .inl v1) dX5_mayCarry_79 rfl (fun _ _ _ => rfl) rfl rfl rfl ?_
  refine zf_ial (pc' := 81) dX5_mayCarry_80 rfl hp0.2.2.2.1 hp0.2.2.2.2 h.1 rfl ?_
  replace h := h.2
  refine zf_ld (pc' := 82) (v := .inr (.inr (1, w0))) dX5_mayCarry_81 rfl (fun _ _ _ => rfl) rfl rfl rfl ?_
  refine zf_ld (pc' := 83) (v := .inl v1) dX5_mayCarry_82 rfl (fun _ _ _ => rfl) rfl rfl rfl ?_
  refine zf_ld (pc' := 84) (v := .inl v3) dX5_mayCarry_83 rfl (fun _ _ _ => rfl) rfl rfl rfl ?_
  refine zf_iv (k := 51) (pc' := 87) (r := [.inl (m.1 r0 (Int32.toInt v1).toNat)]) dX5_mayCarry_84 rfl rfl rfl rfl hp0.1 hp0.2.1 rfl rfl (zr_51 (by omega) hp0 h) (zf_kI (fun x7 m8 h => ?_))
  refine zf_in (pc' := 88) (S' := [.inl ((m.1 r0 (Int32.toInt v1).toNat) + x7)]) dX5_mayCarry_87 rfl (fun _ _ _ => rfl) ?_
  refine zf_ld (pc' := 89) (v := .inr (.inr (1, w0))) dX5_mayCarry_88 rfl (fun _ _ _ => rfl) rfl rfl rfl ?_
  refine zf_gfi (pc' := 92) dX5_mayCarry_89 rfl rfl hp0.1 hp0.2.1 rfl ?_
  refine zf_icmp_gt (tgt := 99) (pc' := 95) dX5_mayCarry_92 rfl rfl (fun g => ?_) (fun g => ?_)
  · replace h := h.1 g
    refine zf_ic (v := 0) (pc' := 100) dX5_mayCarry_99 rfl rfl ?_
    exact zf_rb (b := false) dX5_mayCarry_100 rfl h
  · replace h := h.2 g
    refine zf_ic (v := 1) (pc' := 96) dX5_mayCarry_95 rfl rfl ?_
    refine zf_goto (tgt := 100) dX5_mayCarry_96 rfl ?_
    exact zf_rb (b := true) dX5_mayCarry_100 rfl h
def wq_53_62 (w0 : Nat) (y0 : Nat) (r0 : Nat) (v1 : Int32) (v2 : Int32) (v3 : Int32) (m : zf_Me) (Q : Bool → zf_Me → Prop) : Prop := ((¬ v2.toInt = 6 → wq_53_75 w0 y0 r0 v1 v3 m Q) ∧ (v2.toInt = 6 → ((v3.toInt ≤ 1 → wq_53_75 w0 y0 r0 v1 v3 m Q) ∧ (v3.toInt > 1 → Q false m))))
theorem zq_53_62 {d : Nat} (hd : 1 ≤ d) {w0 : Nat} {y0 : Nat} {r0 : Nat} (hp0 : zf_walk w0 y0 r0) {v1 : Int32} {Q : Bool → zf_Me → Prop} {v2 : Int32} {v3 : Int32} {m : zf_Me} (h : wq_53_62 w0 y0 r0 v1 v2 v3 m Q) : zf_W none 0 0 d zt_53 62 [some (.inr (.inr (1, w0))), some (.inl v1), some (.inl v2), some (.inl v3)] [] m (zf_B Q) := by
  unfold wq_53_62 at h
  refine zf_ld (pc' := 63) (v := .inl v2) dX5_mayCarry_62 rfl (fun _ _ _ => rfl) rfl rfl rfl ?_
  refine zf_bi (v := 6) (pc' := 65) dX5_mayCarry_63 rfl rfl ?_
  refine zf_icmp_ne (tgt := 75) (pc' := 68) dX5_mayCarry_65 rfl rfl (fun g => ?_) (fun g => ?_)
  · replace h := h.1 g
    exact zf_lo (zq_53_75 (by omega) hp0 h) ⟨rfl, rfl, rfl, trivial⟩
  · replace h := h.2 g
    refine zf_ld (pc' := 69) (v := .inl v3) dX5_mayCarry_68 rfl (fun _ _ _ => rfl) rfl rfl rfl ?_
    refine zf_ic (v := 1) (pc' := 70) dX5_mayCarry_69 rfl rfl ?_
    refine zf_icmp_le (tgt := 75) (pc' := 73) dX5_mayCarry_70 rfl rfl (fun g => ?_) (fun g => ?_)
    · replace h := h.1 g
      exact zf_lo (zq_53_75 (by omega) hp0 h) ⟨rfl, rfl, rfl, trivial⟩
    · replace h := h.2 g
      refine zf_ic (v := 0) (pc' := 74) dX5_mayCarry_73 rfl rfl ?_
      exact zf_rb (b := false) dX5_mayCarry_74 rfl h
def wq_53_53 (w0 : Nat) (y0 : Nat) (r0 : Nat) (v1 : Int32) (v2 : Int32) (v3 : Int32) (m : zf_Me) (Q : Bool → zf_Me → Prop) : Prop := wp_48 w0 y0 r0 m (fun b5 m6 => ((b5 = true → wq_53_62 w0 y0 r0 v1 v2 v3 m6 Q) ∧ (b5 = false → Q false m6)))
theorem zq_53_53 {d : Nat} (hd : 1 ≤ d) {w0 : Nat} {y0 : Nat} {r0 : Nat} (hp0 : zf_walk w0 y0 r0) {v1 : Int32} {Q : Bool → zf_Me → Prop} {v2 : Int32} {v3 : Int32} {m : zf_Me} (h : wq_53_53 w0 y0 r0 v1 v2 v3 m Q) : zf_W none 0 0 d zt_53 53 [some (.inr (.inr (1, w0))), some (.inl v1), some (.inl v2), some (.inl v3)] [] m (zf_B Q) := by
  obtain ⟨e, rfl⟩ : ∃ z, d = z + 1 := ⟨d - 1, by omega⟩
  unfold wq_53_53 at h
  refine zf_ld (pc' := 54) (v := .inr (.inr (1, w0))) dX5_mayCarry_53 rfl (fun _ _ _ => rfl) rfl rfl rfl ?_
  refine zf_iv (k := 48) (pc' := 57) (r := []) dX5_mayCarry_54 rfl rfl rfl rfl hp0.1 hp0.2.1 rfl rfl (zr_48 (by omega) hp0 h) (zf_kB (fun b5 m6 h => ?_))
  refine zf_ib_ne (tgt := 62) (pc' := 60) dX5_mayCarry_57 rfl rfl (fun g => ?_) (fun g => ?_)
  · replace h := h.1 g
    exact zf_lo (zq_53_62 (by omega) hp0 h) ⟨rfl, rfl, rfl, rfl, trivial⟩
  · replace h := h.2 g
    refine zf_ic (v := 0) (pc' := 61) dX5_mayCarry_60 rfl rfl ?_
    exact zf_rb (b := false) dX5_mayCarry_61 rfl h
def wp_53 (w0 : Nat) (y0 : Nat) (r0 : Nat) (v1 : Int32) (m : zf_Me) (Q : Bool → zf_Me → Prop) : Prop := wp_65 y0 v1 m (fun b1 m2 => ((b1 = false → Q false m2) ∧ (b1 = true → wp_47 w0 y0 r0 m2 (fun b3 m4 => ((b3 = false → ((0 ≤ (Int32.toInt v1) ∧ (Int32.toInt v1) < (6 : Int)) ∧ ((0 ≤ (Int32.toInt (m4.1 w0 10)) ∧ (Int32.toInt (m4.1 w0 10)) < (24 : Int)) ∧ ((((m4.1 (y0 + 3) (Int32.toInt v1).toNat)).toInt = 2 → wq_53_53 w0 y0 r0 v1 (m4.1 (y0 + 3) (Int32.toInt v1).toNat) (m4.1 (y0 + 1) (Int32.toInt (m4.1 w0 10)).toNat) m4 Q) ∧ (¬ ((m4.1 (y0 + 3) (Int32.toInt v1).toNat)).toInt = 2 → ((¬ ((m4.1 (y0 + 3) (Int32.toInt v1).toNat)).toInt = 5 → wq_53_62 w0 y0 r0 v1 (m4.1 (y0 + 3) (Int32.toInt v1).toNat) (m4.1 (y0 + 1) (Int32.toInt (m4.1 w0 10)).toNat) m4 Q) ∧ (((m4.1 (y0 + 3) (Int32.toInt v1).toNat)).toInt = 5 → wq_53_53 w0 y0 r0 v1 (m4.1 (y0 + 3) (Int32.toInt v1).toNat) (m4.1 (y0 + 1) (Int32.toInt (m4.1 w0 10)).toNat) m4 Q))))))) ∧ (b3 = true → Q false m4))))))
theorem zr_53 {d : Nat} (hd : 1 ≤ d) {w0 : Nat} {y0 : Nat} {r0 : Nat} (hp0 : zf_walk w0 y0 r0) {v1 : Int32} {Q : Bool → zf_Me → Prop} {m : zf_Me} (h : wp_53 w0 y0 r0 v1 m Q) : zf_M d 53 [.inr (.inr (1, w0)), .inl v1] m (zf_B Q) := by
  obtain ⟨e, rfl⟩ : ∃ z, d = z + 1 := ⟨d - 1, by omega⟩
  unfold wp_53 at h
  refine zf_M_of (Nat.le_of_ble_eq_true rfl) zm_53 (L := [some (.inr (.inr (1, w0))), some (.inl v1), none, none]) rfl ?_
  refine zf_ld (pc' := 1) (v := .inr (.inr (1, w0))) dX5_mayCarry_0 rfl (fun _ _ _ => rfl) rfl rfl rfl ?_
  refine zf_gfr (pc' := 4) (b := y0) dX5_mayCarry_1 rfl rfl hp0.1 hp0.2.1 rfl ?_
  refine zf_ld (pc' := 5) (v := .inl v1) dX5_mayCarry_4 rfl (fun _ _ _ => rfl) rfl rfl rfl ?_
  refine zf_iv (k := 65) (pc' := 8) (r := []) dX5_mayCarry_5 rfl rfl rfl rfl hp0.2.2.1.1 hp0.2.2.1.2.1 rfl rfl (zr_65 (by omega) hp0.2.2.1 h) (zf_kB (fun b1 m2 h => ?_))
  refine zf_ib_eq (tgt := 18) (pc' := 11) dX5_mayCarry_8 rfl rfl (fun g => ?_) (fun g => ?_)
  · replace h := h.1 g
    refine zf_ic (v := 0) (pc' := 19) dX5_mayCarry_18 rfl rfl ?_
    exact zf_rb (b := false) dX5_mayCarry_19 rfl h
  · replace h := h.2 g
    refine zf_ld (pc' := 12) (v := .inr (.inr (1, w0))) dX5_mayCarry_11 rfl (fun _ _ _ => rfl) rfl rfl rfl ?_
    refine zf_iv (k := 47) (pc' := 15) (r := []) dX5_mayCarry_12 rfl rfl rfl rfl hp0.1 hp0.2.1 rfl rfl (zr_47 (by omega) hp0 h) (zf_kB (fun b3 m4 h => ?_))
    refine zf_ib_eq (tgt := 20) (pc' := 18) dX5_mayCarry_15 rfl rfl (fun g => ?_) (fun g => ?_)
    · replace h := h.1 g
      refine zf_ld (pc' := 21) (v := .inr (.inr (1, w0))) dX5_mayCarry_20 rfl (fun _ _ _ => rfl) rfl rfl rfl ?_
      refine zf_gfr (pc' := 24) (b := y0) dX5_mayCarry_21 rfl rfl hp0.1 hp0.2.1 rfl ?_
      refine zf_gfr (pc' := 27) (b := (y0 + 3)) dX5_mayCarry_24 rfl rfl hp0.2.2.1.1 hp0.2.2.1.2.1 rfl ?_
      refine zf_ld (pc' := 28) (v := .inl v1) dX5_mayCarry_27 rfl (fun _ _ _ => rfl) rfl rfl rfl ?_
      refine zf_ial (pc' := 29) dX5_mayCarry_28 rfl hp0.2.2.1.2.2.2.2.1.1 hp0.2.2.1.2.2.2.2.1.2 h.1 rfl ?_
      replace h := h.2
      refine zf_st (pc' := 30) (L2 := [some (.inr (.inr (1, w0))), some (.inl v1), some (.inl (m4.1 (y0 + 3) (Int32.toInt v1).toNat)), none]) dX5_mayCarry_29 rfl (fun _ _ _ => rfl) rfl rfl rfl rfl rfl rfl ?_
      refine zf_ld (pc' := 31) (v := .inr (.inr (1, w0))) dX5_mayCarry_30 rfl (fun _ _ _ => rfl) rfl rfl rfl ?_
      refine zf_gfr (pc' := 34) (b := y0) dX5_mayCarry_31 rfl rfl hp0.1 hp0.2.1 rfl ?_
      refine zf_gfr (pc' := 37) (b := (y0 + 1)) dX5_mayCarry_34 rfl rfl hp0.2.2.1.1 hp0.2.2.1.2.1 rfl ?_
      refine zf_ld (pc' := 38) (v := .inr (.inr (1, w0))) dX5_mayCarry_37 rfl (fun _ _ _ => rfl) rfl rfl rfl ?_
      refine zf_gfi (pc' := 41) dX5_mayCarry_38 rfl rfl hp0.1 hp0.2.1 rfl ?_
      refine zf_ial (pc' := 42) dX5_mayCarry_41 rfl hp0.2.2.1.2.2.1.1 hp0.2.2.1.2.2.1.2 h.1 rfl ?_
      replace h := h.2
      refine zf_st (pc' := 43) (L2 := [some (.inr (.inr (1, w0))), some (.inl v1), some (.inl (m4.1 (y0 + 3) (Int32.toInt v1).toNat)), some (.inl (m4.1 (y0 + 1) (Int32.toInt (m4.1 w0 10)).toNat))]) dX5_mayCarry_42 rfl (fun _ _ _ => rfl) rfl rfl rfl rfl rfl rfl ?_
      refine zf_ld (pc' := 44) (v := .inl (m4.1 (y0 + 3) (Int32.toInt v1).toNat)) dX5_mayCarry_43 rfl (fun _ _ _ => rfl) rfl rfl rfl ?_
      refine zf_ic (v := 2) (pc' := 45) dX5_mayCarry_44 rfl rfl ?_
      refine zf_icmp_eq (tgt := 53) (pc' := 48) dX5_mayCarry_45 rfl rfl (fun g => ?_) (fun g => ?_)
      · replace h := h.1 g
        exact zf_lo (zq_53_53 (by omega) hp0 h) ⟨rfl, rfl, rfl, rfl, trivial⟩
      · replace h := h.2 g
        refine zf_ld (pc' := 49) (v := .inl (m4.1 (y0 + 3) (Int32.toInt v1).toNat)) dX5_mayCarry_48 rfl (fun _ _ _ => rfl) rfl rfl rfl ?_
        refine zf_ic (v := 5) (pc' := 50) dX5_mayCarry_49 rfl rfl ?_
        refine zf_icmp_ne (tgt := 62) (pc' := 53) dX5_mayCarry_50 rfl rfl (fun g => ?_) (fun g => ?_)
        · replace h := h.1 g
          exact zf_lo (zq_53_62 (by omega) hp0 h) ⟨rfl, rfl, rfl, rfl, trivial⟩
        · replace h := h.2 g
          exact zf_lo (zq_53_53 (by omega) hp0 h) ⟨rfl, rfl, rfl, rfl, trivial⟩
    · replace h := h.2 g
      refine zf_ic (v := 0) (pc' := 19) dX5_mayCarry_18 rfl rfl ?_
      exact zf_rb (b := false) dX5_mayCarry_19 rfl h
def zt_52 : zx_MT := (5, yX5_mayBe, cX5_mayBe, 2, (some FieldType.boolean), 1, 0)
theorem zm_52 : zx_m 52 = zt_52 := rfl
theorem dX5_mayBe_0 : decode cX5_mayBe 0 = .ok (.iload_n 1, 1) := zdc_ok (by decide +kernel)
theorem dX5_mayBe_1 : decode cX5_mayBe 1 = .ok (.tableswitch 99 6 9 #[31, 52, 73, 94], 31) := by decide +kernel
theorem dX5_mayBe_r32 : zdcP cX5_mayBe 32 [(.aload_n 0, 1), (.invokevirtual 85, 3), (.ifCond .eq 15, 3), (.aload_n 0, 1), (.getfield 22, 3), (.iconst 1, 1), (.if_icmp .lt 7, 3), (.iconst 1, 1), (.goto 4, 3), (.iconst 0, 1), (.ireturn, 1), (.aload_n 0, 1), (.invokevirtual 85, 3), (.ifCond .eq 15, 3), (.aload_n 0, 1), (.getfield 31, 3)] := zdcA_ok (by decide +kernel)
theorem dX5_mayBe_32 : decode cX5_mayBe 32 = .ok (.aload_n 0, 1) := dX5_mayBe_r32.1
theorem dX5_mayBe_33 : decode cX5_mayBe 33 = .ok (.invokevirtual 85, 3) := dX5_mayBe_r32.2.1
theorem dX5_mayBe_36 : decode cX5_mayBe 36 = .ok (.ifCond .eq 15, 3) := dX5_mayBe_r32.2.2.1
theorem dX5_mayBe_39 : decode cX5_mayBe 39 = .ok (.aload_n 0, 1) := dX5_mayBe_r32.2.2.2.1
theorem dX5_mayBe_40 : decode cX5_mayBe 40 = .ok (.getfield 22, 3) := dX5_mayBe_r32.2.2.2.2.1
theorem dX5_mayBe_43 : decode cX5_mayBe 43 = .ok (.iconst 1, 1) := dX5_mayBe_r32.2.2.2.2.2.1
theorem dX5_mayBe_44 : decode cX5_mayBe 44 = .ok (.if_icmp .lt 7, 3) := dX5_mayBe_r32.2.2.2.2.2.2.1
theorem dX5_mayBe_47 : decode cX5_mayBe 47 = .ok (.iconst 1, 1) := dX5_mayBe_r32.2.2.2.2.2.2.2.1
theorem dX5_mayBe_48 : decode cX5_mayBe 48 = .ok (.goto 4, 3) := dX5_mayBe_r32.2.2.2.2.2.2.2.2.1
theorem dX5_mayBe_51 : decode cX5_mayBe 51 = .ok (.iconst 0, 1) := dX5_mayBe_r32.2.2.2.2.2.2.2.2.2.1
theorem dX5_mayBe_52 : decode cX5_mayBe 52 = .ok (.ireturn, 1) := dX5_mayBe_r32.2.2.2.2.2.2.2.2.2.2.1
theorem dX5_mayBe_53 : decode cX5_mayBe 53 = .ok (.aload_n 0, 1) := dX5_mayBe_r32.2.2.2.2.2.2.2.2.2.2.2.1
theorem dX5_mayBe_54 : decode cX5_mayBe 54 = .ok (.invokevirtual 85, 3) := dX5_mayBe_r32.2.2.2.2.2.2.2.2.2.2.2.2.1
theorem dX5_mayBe_57 : decode cX5_mayBe 57 = .ok (.ifCond .eq 15, 3) := dX5_mayBe_r32.2.2.2.2.2.2.2.2.2.2.2.2.2.1
theorem dX5_mayBe_60 : decode cX5_mayBe 60 = .ok (.aload_n 0, 1) := dX5_mayBe_r32.2.2.2.2.2.2.2.2.2.2.2.2.2.2.1
theorem dX5_mayBe_61 : decode cX5_mayBe 61 = .ok (.getfield 31, 3) := dX5_mayBe_r32.2.2.2.2.2.2.2.2.2.2.2.2.2.2.2.1
theorem dX5_mayBe_r64 : zdcP cX5_mayBe 64 [(.iconst 1, 1), (.if_icmp .lt 7, 3), (.iconst 1, 1), (.goto 4, 3), (.iconst 0, 1), (.ireturn, 1), (.aload_n 0, 1), (.invokevirtual 85, 3), (.ifCond .eq 15, 3), (.aload_n 0, 1), (.getfield 34, 3), (.iconst 1, 1), (.if_icmp .lt 7, 3), (.iconst 1, 1), (.goto 4, 3), (.iconst 0, 1)] := zdcA_ok (by decide +kernel)
theorem dX5_mayBe_64 : decode cX5_mayBe 64 = .ok (.iconst 1, 1) := dX5_mayBe_r64.1
theorem dX5_mayBe_65 : decode cX5_mayBe 65 = .ok (.if_icmp .lt 7, 3) := dX5_mayBe_r64.2.1
theorem dX5_mayBe_68 : decode cX5_mayBe 68 = .ok (.iconst 1, 1) := dX5_mayBe_r64.2.2.1
theorem dX5_mayBe_69 : decode cX5_mayBe 69 = .ok (.goto 4, 3) := dX5_mayBe_r64.2.2.2.1
theorem dX5_mayBe_72 : decode cX5_mayBe 72 = .ok (.iconst 0, 1) := dX5_mayBe_r64.2.2.2.2.1
theorem dX5_mayBe_73 : decode cX5_mayBe 73 = .ok (.ireturn, 1) := dX5_mayBe_r64.2.2.2.2.2.1
theorem dX5_mayBe_74 : decode cX5_mayBe 74 = .ok (.aload_n 0, 1) := dX5_mayBe_r64.2.2.2.2.2.2.1
theorem dX5_mayBe_75 : decode cX5_mayBe 75 = .ok (.invokevirtual 85, 3) := dX5_mayBe_r64.2.2.2.2.2.2.2.1
theorem dX5_mayBe_78 : decode cX5_mayBe 78 = .ok (.ifCond .eq 15, 3) := dX5_mayBe_r64.2.2.2.2.2.2.2.2.1
theorem dX5_mayBe_81 : decode cX5_mayBe 81 = .ok (.aload_n 0, 1) := dX5_mayBe_r64.2.2.2.2.2.2.2.2.2.1
theorem dX5_mayBe_82 : decode cX5_mayBe 82 = .ok (.getfield 34, 3) := dX5_mayBe_r64.2.2.2.2.2.2.2.2.2.2.1
theorem dX5_mayBe_85 : decode cX5_mayBe 85 = .ok (.iconst 1, 1) := dX5_mayBe_r64.2.2.2.2.2.2.2.2.2.2.2.1
theorem dX5_mayBe_86 : decode cX5_mayBe 86 = .ok (.if_icmp .lt 7, 3) := dX5_mayBe_r64.2.2.2.2.2.2.2.2.2.2.2.2.1
theorem dX5_mayBe_89 : decode cX5_mayBe 89 = .ok (.iconst 1, 1) := dX5_mayBe_r64.2.2.2.2.2.2.2.2.2.2.2.2.2.1
theorem dX5_mayBe_90 : decode cX5_mayBe 90 = .ok (.goto 4, 3) := dX5_mayBe_r64.2.2.2.2.2.2.2.2.2.2.2.2.2.2.1
theorem dX5_mayBe_93 : decode cX5_mayBe 93 = .ok (.iconst 0, 1) := dX5_mayBe_r64.2.2.2.2.2.2.2.2.2.2.2.2.2.2.2.1
theorem dX5_mayBe_r94 : zdcP cX5_mayBe 94 [(.ireturn, 1), (.aload_n 0, 1), (.invokevirtual 89, 3), (.ireturn, 1), (.aload_n 0, 1), (.iload_n 1, 1), (.invokevirtual 92, 3), (.ireturn, 1)] := zdcA_ok (by decide +kernel)
theorem dX5_mayBe_94 : decode cX5_mayBe 94 = .ok (.ireturn, 1) := dX5_mayBe_r94.1
theorem dX5_mayBe_95 : decode cX5_mayBe 95 = .ok (.aload_n 0, 1) := dX5_mayBe_r94.2.1
theorem dX5_mayBe_96 : decode cX5_mayBe 96 = .ok (.invokevirtual 89, 3) := dX5_mayBe_r94.2.2.1
theorem dX5_mayBe_99 : decode cX5_mayBe 99 = .ok (.ireturn, 1) := dX5_mayBe_r94.2.2.2.1
theorem dX5_mayBe_100 : decode cX5_mayBe 100 = .ok (.aload_n 0, 1) := dX5_mayBe_r94.2.2.2.2.1
theorem dX5_mayBe_101 : decode cX5_mayBe 101 = .ok (.iload_n 1, 1) := dX5_mayBe_r94.2.2.2.2.2.1
theorem dX5_mayBe_102 : decode cX5_mayBe 102 = .ok (.invokevirtual 92, 3) := dX5_mayBe_r94.2.2.2.2.2.2.1
theorem dX5_mayBe_105 : decode cX5_mayBe 105 = .ok (.ireturn, 1) := dX5_mayBe_r94.2.2.2.2.2.2.2.1
def wp_52 (w0 : Nat) (y0 : Nat) (r0 : Nat) (v1 : Int32) (m : zf_Me) (Q : Bool → zf_Me → Prop) : Prop := (((v1.toInt < 6 ∨ v1.toInt > 9) → wp_53 w0 y0 r0 v1 m (fun b1 m2 => Q b1 m2)) ∧ (v1.toInt = 6 → wp_54 w0 y0 r0 m (fun b3 m4 => ((b3 = false → Q false m4) ∧ (b3 = true → ((((m4.1 w0 4)).toInt < 1 → Q false m4) ∧ (((m4.1 w0 4)).toInt ≥ 1 → Q true m4)))))) ∧ (v1.toInt = 7 → wp_54 w0 y0 r0 m (fun b5 m6 => ((b5 = false → Q false m6) ∧ (b5 = true → ((((m6.1 w0 7)).toInt < 1 → Q false m6) ∧ (((m6.1 w0 7)).toInt ≥ 1 → Q true m6)))))) ∧ (v1.toInt = 8 → wp_54 w0 y0 r0 m (fun b7 m8 => ((b7 = false → Q false m8) ∧ (b7 = true → ((((m8.1 w0 8)).toInt < 1 → Q false m8) ∧ (((m8.1 w0 8)).toInt ≥ 1 → Q true m8)))))) ∧ (v1.toInt = 9 → wp_55 w0 y0 r0 m (fun b9 m10 => Q b9 m10)))
theorem zr_52 {d : Nat} (hd : 2 ≤ d) {w0 : Nat} {y0 : Nat} {r0 : Nat} (hp0 : zf_walk w0 y0 r0) {v1 : Int32} {Q : Bool → zf_Me → Prop} {m : zf_Me} (h : wp_52 w0 y0 r0 v1 m Q) : zf_M d 52 [.inr (.inr (1, w0)), .inl v1] m (zf_B Q) := by
  obtain ⟨e, rfl⟩ : ∃ z, d = z + 1 := ⟨d - 1, by omega⟩
  unfold wp_52 at h
  refine zf_M_of (Nat.le_of_ble_eq_true rfl) zm_52 (L := [some (.inr (.inr (1, w0))), some (.inl v1)]) rfl ?_
  refine zf_ld (pc' := 1) (v := .inl v1) dX5_mayBe_0 rfl (fun _ _ _ => rfl) rfl rfl rfl ?_
  refine zf_tsc (tgd := 100) dX5_mayBe_1 rfl [32, 53, 74, 95] (by decide) (by decide) (fun g => ?_) (zl_cons (fun g => ?_) (zl_cons (fun g => ?_) (zl_cons (fun g => ?_) (zl_cons (fun g => ?_) (zl_nil)))))
  · replace h := h.1 (by omega)
    refine zf_ld (pc' := 101) (v := .inr (.inr (1, w0))) dX5_mayBe_100 rfl (fun _ _ _ => rfl) rfl rfl rfl ?_
    refine zf_ld (pc' := 102) (v := .inl v1) dX5_mayBe_101 rfl (fun _ _ _ => rfl) rfl rfl rfl ?_
    refine zf_iv (k := 53) (pc' := 105) (r := []) dX5_mayBe_102 rfl rfl rfl rfl hp0.1 hp0.2.1 rfl rfl (zr_53 (by omega) hp0 h) (zf_kB (fun b1 m2 h => ?_))
    exact zf_rb (b := b1) dX5_mayBe_105 rfl h
  · replace h := h.2.1 (by omega)
    refine zf_ld (pc' := 33) (v := .inr (.inr (1, w0))) dX5_mayBe_32 rfl (fun _ _ _ => rfl) rfl rfl rfl ?_
    refine zf_iv (k := 54) (pc' := 36) (r := []) dX5_mayBe_33 rfl rfl rfl rfl hp0.1 hp0.2.1 rfl rfl (zr_54 (by omega) hp0 h) (zf_kB (fun b3 m4 h => ?_))
    refine zf_ib_eq (tgt := 51) (pc' := 39) dX5_mayBe_36 rfl rfl (fun g => ?_) (fun g => ?_)
    · replace h := h.1 g
      refine zf_ic (v := 0) (pc' := 52) dX5_mayBe_51 rfl rfl ?_
      exact zf_rb (b := false) dX5_mayBe_52 rfl h
    · replace h := h.2 g
      refine zf_ld (pc' := 40) (v := .inr (.inr (1, w0))) dX5_mayBe_39 rfl (fun _ _ _ => rfl) rfl rfl rfl ?_
      refine zf_gfi (pc' := 43) dX5_mayBe_40 rfl rfl hp0.1 hp0.2.1 rfl ?_
      refine zf_ic (v := 1) (pc' := 44) dX5_mayBe_43 rfl rfl ?_
      refine zf_icmp_lt (tgt := 51) (pc' := 47) dX5_mayBe_44 rfl rfl (fun g => ?_) (fun g => ?_)
      · replace h := h.1 g
        refine zf_ic (v := 0) (pc' := 52) dX5_mayBe_51 rfl rfl ?_
        exact zf_rb (b := false) dX5_mayBe_52 rfl h
      · replace h := h.2 g
        refine zf_ic (v := 1) (pc' := 48) dX5_mayBe_47 rfl rfl ?_
        refine zf_goto (tgt := 52) dX5_mayBe_48 rfl ?_
        exact zf_rb (b := true) dX5_mayBe_52 rfl h
  · replace h := h.2.2.1 (by omega)
    refine zf_ld (pc' := 54) (v := .inr (.inr (1, w0))) dX5_mayBe_53 rfl (fun _ _ _ => rfl) rfl rfl rfl ?_
    refine zf_iv (k := 54) (pc' := 57) (r := []) dX5_mayBe_54 rfl rfl rfl rfl hp0.1 hp0.2.1 rfl rfl (zr_54 (by omega) hp0 h) (zf_kB (fun b5 m6 h => ?_))
    refine zf_ib_eq (tgt := 72) (pc' := 60) dX5_mayBe_57 rfl rfl (fun g => ?_) (fun g => ?_)
    · replace h := h.1 g
      refine zf_ic (v := 0) (pc' := 73) dX5_mayBe_72 rfl rfl ?_
      exact zf_rb (b := false) dX5_mayBe_73 rfl h
    · replace h := h.2 g
      refine zf_ld (pc' := 61) (v := .inr (.inr (1, w0))) dX5_mayBe_60 rfl (fun _ _ _ => rfl) rfl rfl rfl ?_
      refine zf_gfi (pc' := 64) dX5_mayBe_61 rfl rfl hp0.1 hp0.2.1 rfl ?_
      refine zf_ic (v := 1) (pc' := 65) dX5_mayBe_64 rfl rfl ?_
      refine zf_icmp_lt (tgt := 72) (pc' := 68) dX5_mayBe_65 rfl rfl (fun g => ?_) (fun g => ?_)
      · replace h := h.1 g
        refine zf_ic (v := 0) (pc' := 73) dX5_mayBe_72 rfl rfl ?_
        exact zf_rb (b := false) dX5_mayBe_73 rfl h
      · replace h := h.2 g
        refine zf_ic (v := 1) (pc' := 69) dX5_mayBe_68 rfl rfl ?_
        refine zf_goto (tgt := 73) dX5_mayBe_69 rfl ?_
        exact zf_rb (b := true) dX5_mayBe_73 rfl h
  · replace h := h.2.2.2.1 (by omega)
    refine zf_ld (pc' := 75) (v := .inr (.inr (1, w0))) dX5_mayBe_74 rfl (fun _ _ _ => rfl) rfl rfl rfl ?_
    refine zf_iv (k := 54) (pc' := 78) (r := []) dX5_mayBe_75 rfl rfl rfl rfl hp0.1 hp0.2.1 rfl rfl (zr_54 (by omega) hp0 h) (zf_kB (fun b7 m8 h => ?_))
    refine zf_ib_eq (tgt := 93) (pc' := 81) dX5_mayBe_78 rfl rfl (fun g => ?_) (fun g => ?_)
    · replace h := h.1 g
      refine zf_ic (v := 0) (pc' := 94) dX5_mayBe_93 rfl rfl ?_
      exact zf_rb (b := false) dX5_mayBe_94 rfl h
    · replace h := h.2 g
      refine zf_ld (pc' := 82) (v := .inr (.inr (1, w0))) dX5_mayBe_81 rfl (fun _ _ _ => rfl) rfl rfl rfl ?_
      refine zf_gfi (pc' := 85) dX5_mayBe_82 rfl rfl hp0.1 hp0.2.1 rfl ?_
      refine zf_ic (v := 1) (pc' := 86) dX5_mayBe_85 rfl rfl ?_
      refine zf_icmp_lt (tgt := 93) (pc' := 89) dX5_mayBe_86 rfl rfl (fun g => ?_) (fun g => ?_)
      · replace h := h.1 g
        refine zf_ic (v := 0) (pc' := 94) dX5_mayBe_93 rfl rfl ?_
        exact zf_rb (b := false) dX5_mayBe_94 rfl h
      · replace h := h.2 g
        refine zf_ic (v := 1) (pc' := 90) dX5_mayBe_89 rfl rfl ?_
        refine zf_goto (tgt := 94) dX5_mayBe_90 rfl ?_
        exact zf_rb (b := true) dX5_mayBe_94 rfl h
  · replace h := h.2.2.2.2 (by omega)
    refine zf_ld (pc' := 96) (v := .inr (.inr (1, w0))) dX5_mayBe_95 rfl (fun _ _ _ => rfl) rfl rfl rfl ?_
    refine zf_iv (k := 55) (pc' := 99) (r := []) dX5_mayBe_96 rfl rfl rfl rfl hp0.1 hp0.2.1 rfl rfl (zr_55 (by omega) hp0 h) (zf_kB (fun b9 m10 h => ?_))
    exact zf_rb (b := b9) dX5_mayBe_99 rfl h
def zt_11 : zx_MT := (1, yX1_whoseTurn, cX1_whoseTurn, 4, (some FieldType.int), 0, 0)
theorem zm_11 : zx_m 11 = zt_11 := rfl
theorem dX1_whoseTurn_r0 : zdcP cX1_whoseTurn 0 [(.aload_n 0, 1), (.getfield 26, 3), (.getfield 60, 3), (.getfield 64, 3), (.istore_n 1, 1), (.iconst 0, 1), (.istore_n 2, 1), (.iload_n 2, 1), (.iload_n 1, 1), (.if_icmp .ge 36, 3), (.aload_n 0, 1), (.getfield 9, 3), (.iload_n 2, 1), (.iadd, 1), (.iload_n 1, 1), (.irem, 1)] := zdcA_ok (by decide +kernel)
theorem dX1_whoseTurn_0 : decode cX1_whoseTurn 0 = .ok (.aload_n 0, 1) := dX1_whoseTurn_r0.1
theorem dX1_whoseTurn_1 : decode cX1_whoseTurn 1 = .ok (.getfield 26, 3) := dX1_whoseTurn_r0.2.1
theorem dX1_whoseTurn_4 : decode cX1_whoseTurn 4 = .ok (.getfield 60, 3) := dX1_whoseTurn_r0.2.2.1
theorem dX1_whoseTurn_7 : decode cX1_whoseTurn 7 = .ok (.getfield 64, 3) := dX1_whoseTurn_r0.2.2.2.1
theorem dX1_whoseTurn_10 : decode cX1_whoseTurn 10 = .ok (.istore_n 1, 1) := dX1_whoseTurn_r0.2.2.2.2.1
theorem dX1_whoseTurn_11 : decode cX1_whoseTurn 11 = .ok (.iconst 0, 1) := dX1_whoseTurn_r0.2.2.2.2.2.1
theorem dX1_whoseTurn_12 : decode cX1_whoseTurn 12 = .ok (.istore_n 2, 1) := dX1_whoseTurn_r0.2.2.2.2.2.2.1
theorem dX1_whoseTurn_13 : decode cX1_whoseTurn 13 = .ok (.iload_n 2, 1) := dX1_whoseTurn_r0.2.2.2.2.2.2.2.1
theorem dX1_whoseTurn_14 : decode cX1_whoseTurn 14 = .ok (.iload_n 1, 1) := dX1_whoseTurn_r0.2.2.2.2.2.2.2.2.1
theorem dX1_whoseTurn_15 : decode cX1_whoseTurn 15 = .ok (.if_icmp .ge 36, 3) := dX1_whoseTurn_r0.2.2.2.2.2.2.2.2.2.1
theorem dX1_whoseTurn_18 : decode cX1_whoseTurn 18 = .ok (.aload_n 0, 1) := dX1_whoseTurn_r0.2.2.2.2.2.2.2.2.2.2.1
theorem dX1_whoseTurn_19 : decode cX1_whoseTurn 19 = .ok (.getfield 9, 3) := dX1_whoseTurn_r0.2.2.2.2.2.2.2.2.2.2.2.1
theorem dX1_whoseTurn_22 : decode cX1_whoseTurn 22 = .ok (.iload_n 2, 1) := dX1_whoseTurn_r0.2.2.2.2.2.2.2.2.2.2.2.2.1
theorem dX1_whoseTurn_23 : decode cX1_whoseTurn 23 = .ok (.iadd, 1) := dX1_whoseTurn_r0.2.2.2.2.2.2.2.2.2.2.2.2.2.1
theorem dX1_whoseTurn_24 : decode cX1_whoseTurn 24 = .ok (.iload_n 1, 1) := dX1_whoseTurn_r0.2.2.2.2.2.2.2.2.2.2.2.2.2.2.1
theorem dX1_whoseTurn_25 : decode cX1_whoseTurn 25 = .ok (.irem, 1) := dX1_whoseTurn_r0.2.2.2.2.2.2.2.2.2.2.2.2.2.2.2.1
theorem dX1_whoseTurn_r26 : zdcP cX1_whoseTurn 26 [(.istore_n 3, 1), (.aload_n 0, 1), (.getfield 26, 3), (.iload_n 3, 1), (.invokevirtual 85, 3), (.ifCond .eq 10, 3), (.aload_n 0, 1), (.iload_n 3, 1), (.putfield 9, 3), (.iload_n 3, 1), (.ireturn, 1), (.iinc 2 1, 3), (.goto (-35), 3), (.iconst (-1), 1), (.ireturn, 1)] := zdcA_ok (by decide +kernel)
theorem dX1_whoseTurn_26 : decode cX1_whoseTurn 26 = .ok (.istore_n 3, 1) := dX1_whoseTurn_r26.1
theorem dX1_whoseTurn_27 : decode cX1_whoseTurn 27 = .ok (.aload_n 0, 1) := dX1_whoseTurn_r26.2.1
theorem dX1_whoseTurn_28 : decode cX1_whoseTurn 28 = .ok (.getfield 26, 3) := dX1_whoseTurn_r26.2.2.1
theorem dX1_whoseTurn_31 : decode cX1_whoseTurn 31 = .ok (.iload_n 3, 1) := dX1_whoseTurn_r26.2.2.2.1
theorem dX1_whoseTurn_32 : decode cX1_whoseTurn 32 = .ok (.invokevirtual 85, 3) := dX1_whoseTurn_r26.2.2.2.2.1
theorem dX1_whoseTurn_35 : decode cX1_whoseTurn 35 = .ok (.ifCond .eq 10, 3) := dX1_whoseTurn_r26.2.2.2.2.2.1
theorem dX1_whoseTurn_38 : decode cX1_whoseTurn 38 = .ok (.aload_n 0, 1) := dX1_whoseTurn_r26.2.2.2.2.2.2.1
theorem dX1_whoseTurn_39 : decode cX1_whoseTurn 39 = .ok (.iload_n 3, 1) := dX1_whoseTurn_r26.2.2.2.2.2.2.2.1
theorem dX1_whoseTurn_40 : decode cX1_whoseTurn 40 = .ok (.putfield 9, 3) := dX1_whoseTurn_r26.2.2.2.2.2.2.2.2.1
theorem dX1_whoseTurn_43 : decode cX1_whoseTurn 43 = .ok (.iload_n 3, 1) := dX1_whoseTurn_r26.2.2.2.2.2.2.2.2.2.1
theorem dX1_whoseTurn_44 : decode cX1_whoseTurn 44 = .ok (.ireturn, 1) := dX1_whoseTurn_r26.2.2.2.2.2.2.2.2.2.2.1
theorem dX1_whoseTurn_45 : decode cX1_whoseTurn 45 = .ok (.iinc 2 1, 3) := dX1_whoseTurn_r26.2.2.2.2.2.2.2.2.2.2.2.1
theorem dX1_whoseTurn_48 : decode cX1_whoseTurn 48 = .ok (.goto (-35), 3) := dX1_whoseTurn_r26.2.2.2.2.2.2.2.2.2.2.2.2.1
theorem dX1_whoseTurn_51 : decode cX1_whoseTurn 51 = .ok (.iconst (-1), 1) := dX1_whoseTurn_r26.2.2.2.2.2.2.2.2.2.2.2.2.2.1
theorem dX1_whoseTurn_52 : decode cX1_whoseTurn 52 = .ok (.ireturn, 1) := dX1_whoseTurn_r26.2.2.2.2.2.2.2.2.2.2.2.2.2.2.1
def wq_11_13 (Q : Int32 → zf_Me → Prop) : Nat → Int32 → Int32 → zf_Me → Prop
  | 0, _, _, _ => False
  | n + 1, v1, v2, m => ((v2.toInt ≥ v1.toInt → Q (-1) m) ∧ (v2.toInt < v1.toInt → (¬ (Int32.toInt v1) = 0 ∧ wp_53 19 3 20 (((m.1 18 1) + v2) - ((m.1 18 1) + v2) / v1 * v1) m (fun b1 m2 => ((b1 = false → wq_11_13 Q n v1 (v2 + 1) m2) ∧ (b1 = true → (∀ m3, m3 = zf_u m2 18 1 (((m.1 18 1) + v2) - ((m.1 18 1) + v2) / v1 * v1) → Q (((m.1 18 1) + v2) - ((m.1 18 1) + v2) / v1 * v1) m3)))))))
theorem zq_11_13 {d : Nat} (hd : 2 ≤ d) {Q : Int32 → zf_Me → Prop} : ∀ (n : Nat) (v1 : Int32) (v2 : Int32) (m : zf_Me), wq_11_13 Q n v1 v2 m → zf_W none 0 0 d zt_11 13 [some (.inr (.inr (1, 18))), some (.inl v1), some (.inl v2), none] [] m (zf_I Q) := by
  obtain ⟨e, rfl⟩ : ∃ z, d = z + 1 := ⟨d - 1, by omega⟩
  intro n
  induction n with
  | zero =>
    intro v1 v2 m h
    exact h.elim
  | succ n ih =>
    intro v1 v2 m h
    unfold wq_11_13 at h
    refine zf_ld (pc' := 14) (v := .inl v2) dX1_whoseTurn_13 rfl (fun _ _ _ => rfl) rfl rfl rfl ?_
    refine zf_ld (pc' := 15) (v := .inl v1) dX1_whoseTurn_14 rfl (fun _ _ _ => rfl) rfl rfl rfl ?_
    refine zf_icmp_ge (tgt := 51) (pc' := 18) dX1_whoseTurn_15 rfl rfl (fun g => ?_) (fun g => ?_)
    · replace h := h.1 g
      refine zf_ic (v := (-1)) (pc' := 52) dX1_whoseTurn_51 rfl rfl ?_
      exact zf_ri dX1_whoseTurn_52 rfl h
    · replace h := h.2 g
      refine zf_ld (pc' := 19) (v := .inr (.inr (1, 18))) dX1_whoseTurn_18 rfl (fun _ _ _ => rfl) rfl rfl rfl ?_
      refine zf_gfi (pc' := 22) dX1_whoseTurn_19 rfl rfl (by decide) rfl rfl ?_
      refine zf_ld (pc' := 23) (v := .inl v2) dX1_whoseTurn_22 rfl (fun _ _ _ => rfl) rfl rfl rfl ?_
      refine zf_in (pc' := 24) (S' := [.inl ((m.1 18 1) + v2)]) dX1_whoseTurn_23 rfl (fun _ _ _ => rfl) ?_
      refine zf_ld (pc' := 25) (v := .inl v1) dX1_whoseTurn_24 rfl (fun _ _ _ => rfl) rfl rfl rfl ?_
      refine zf_rem (pc' := 26) dX1_whoseTurn_25 rfl (fun z => h.1 (congrArg Int32.toInt z)) ?_
      replace h := h.2
      refine zf_st (pc' := 27) (L2 := [some (.inr (.inr (1, 18))), some (.inl v1), some (.inl v2), some (.inl (((m.1 18 1) + v2) - ((m.1 18 1) + v2) / v1 * v1))]) dX1_whoseTurn_26 rfl (fun _ _ _ => rfl) rfl rfl rfl rfl rfl rfl ?_
      refine zf_ld (pc' := 28) (v := .inr (.inr (1, 18))) dX1_whoseTurn_27 rfl (fun _ _ _ => rfl) rfl rfl rfl ?_
      refine zf_gfr (pc' := 31) (b := 19) dX1_whoseTurn_28 rfl rfl (by decide) rfl rfl ?_
      refine zf_ld (pc' := 32) (v := .inl (((m.1 18 1) + v2) - ((m.1 18 1) + v2) / v1 * v1)) dX1_whoseTurn_31 rfl (fun _ _ _ => rfl) rfl rfl rfl ?_
      refine zf_iv (k := 53) (pc' := 35) (r := []) dX1_whoseTurn_32 rfl rfl rfl rfl zf_walk19.1 zf_walk19.2.1 rfl rfl (zr_53 (by omega) zf_walk19 h) (zf_kB (fun b1 m2 h => ?_))
      refine zf_ib_eq (tgt := 45) (pc' := 38) dX1_whoseTurn_35 rfl rfl (fun g => ?_) (fun g => ?_)
      · replace h := h.1 g
        refine zf_ii (y := (v2 + 1)) (L2 := [some (.inr (.inr (1, 18))), some (.inl v1), some (.inl (v2 + 1)), some (.inl (((m.1 18 1) + v2) - ((m.1 18 1) + v2) / v1 * v1))]) (pc' := 48) dX1_whoseTurn_45 rfl rfl rfl rfl rfl ?_
        refine zf_goto (tgt := 13) dX1_whoseTurn_48 rfl ?_
        exact zf_lo (ih _ _ _ h) ⟨rfl, rfl, rfl, trivial⟩
      · replace h := h.2 g
        refine zf_ld (pc' := 39) (v := .inr (.inr (1, 18))) dX1_whoseTurn_38 rfl (fun _ _ _ => rfl) rfl rfl rfl ?_
        refine zf_ld (pc' := 40) (v := .inl (((m.1 18 1) + v2) - ((m.1 18 1) + v2) / v1 * v1)) dX1_whoseTurn_39 rfl (fun _ _ _ => rfl) rfl rfl rfl ?_
        refine zf_pf (pc' := 43) dX1_whoseTurn_40 rfl rfl (by decide) rfl rfl rfl (fun m3 e4 => ?_)
        replace h := h m3 e4
        refine zf_ld (pc' := 44) (v := .inl (((m.1 18 1) + v2) - ((m.1 18 1) + v2) / v1 * v1)) dX1_whoseTurn_43 rfl (fun _ _ _ => rfl) rfl rfl rfl ?_
        exact zf_ri dX1_whoseTurn_44 rfl h
def wp_11 (m : zf_Me) (Q : Int32 → zf_Me → Prop) : Prop := (∃ n13, wq_11_13 Q n13 (m.1 3 5) 0 m)
theorem zr_11 {d : Nat} (hd : 2 ≤ d) {Q : Int32 → zf_Me → Prop} {m : zf_Me} (h : wp_11 m Q) : zf_M d 11 [.inr (.inr (1, 18))] m (zf_I Q) := by
  unfold wp_11 at h
  refine zf_M_of (Nat.le_of_ble_eq_true rfl) zm_11 (L := [some (.inr (.inr (1, 18))), none, none, none]) rfl ?_
  refine zf_ld (pc' := 1) (v := .inr (.inr (1, 18))) dX1_whoseTurn_0 rfl (fun _ _ _ => rfl) rfl rfl rfl ?_
  refine zf_gfr (pc' := 4) (b := 19) dX1_whoseTurn_1 rfl rfl (by decide) rfl rfl ?_
  refine zf_gfr (pc' := 7) (b := 3) dX1_whoseTurn_4 rfl rfl zf_walk19.1 zf_walk19.2.1 rfl ?_
  refine zf_gfi (pc' := 10) dX1_whoseTurn_7 rfl rfl zf_walk19.2.2.1.1 zf_walk19.2.2.1.2.1 rfl ?_
  refine zf_st (pc' := 11) (L2 := [some (.inr (.inr (1, 18))), some (.inl (m.1 3 5)), none, none]) dX1_whoseTurn_10 rfl (fun _ _ _ => rfl) rfl rfl rfl rfl rfl rfl ?_
  refine zf_ic (v := 0) (pc' := 12) dX1_whoseTurn_11 rfl rfl ?_
  refine zf_st (pc' := 13) (L2 := [some (.inr (.inr (1, 18))), some (.inl (m.1 3 5)), some (.inl 0), none]) dX1_whoseTurn_12 rfl (fun _ _ _ => rfl) rfl rfl rfl rfl rfl rfl ?_
  obtain ⟨n13, h⟩ := h
  exact zf_lo (zq_11_13 (by omega) n13 _ _ _ h) ⟨rfl, rfl, rfl, trivial⟩
def zt_12 : zx_MT := (1, yX1_freshest, cX1_freshest, 3, (some FieldType.int), 0, 0)
theorem zm_12 : zx_m 12 = zt_12 := rfl
theorem dX1_freshest_r0 : zdcP cX1_freshest 0 [(.iconst (-1), 1), (.istore_n 1, 1), (.iconst 0, 1), (.istore_n 2, 1), (.iload_n 2, 1), (.aload_n 0, 1), (.getfield 26, 3), (.getfield 60, 3), (.getfield 64, 3), (.if_icmp .ge 48, 3), (.aload_n 0, 1), (.getfield 26, 3), (.iload_n 2, 1), (.invokevirtual 85, 3), (.ifCond .eq 31, 3), (.iload_n 1, 1)] := zdcA_ok (by decide +kernel)
theorem dX1_freshest_0 : decode cX1_freshest 0 = .ok (.iconst (-1), 1) := dX1_freshest_r0.1
theorem dX1_freshest_1 : decode cX1_freshest 1 = .ok (.istore_n 1, 1) := dX1_freshest_r0.2.1
theorem dX1_freshest_2 : decode cX1_freshest 2 = .ok (.iconst 0, 1) := dX1_freshest_r0.2.2.1
theorem dX1_freshest_3 : decode cX1_freshest 3 = .ok (.istore_n 2, 1) := dX1_freshest_r0.2.2.2.1
theorem dX1_freshest_4 : decode cX1_freshest 4 = .ok (.iload_n 2, 1) := dX1_freshest_r0.2.2.2.2.1
theorem dX1_freshest_5 : decode cX1_freshest 5 = .ok (.aload_n 0, 1) := dX1_freshest_r0.2.2.2.2.2.1
theorem dX1_freshest_6 : decode cX1_freshest 6 = .ok (.getfield 26, 3) := dX1_freshest_r0.2.2.2.2.2.2.1
theorem dX1_freshest_9 : decode cX1_freshest 9 = .ok (.getfield 60, 3) := dX1_freshest_r0.2.2.2.2.2.2.2.1
theorem dX1_freshest_12 : decode cX1_freshest 12 = .ok (.getfield 64, 3) := dX1_freshest_r0.2.2.2.2.2.2.2.2.1
theorem dX1_freshest_15 : decode cX1_freshest 15 = .ok (.if_icmp .ge 48, 3) := dX1_freshest_r0.2.2.2.2.2.2.2.2.2.1
theorem dX1_freshest_18 : decode cX1_freshest 18 = .ok (.aload_n 0, 1) := dX1_freshest_r0.2.2.2.2.2.2.2.2.2.2.1
theorem dX1_freshest_19 : decode cX1_freshest 19 = .ok (.getfield 26, 3) := dX1_freshest_r0.2.2.2.2.2.2.2.2.2.2.2.1
theorem dX1_freshest_22 : decode cX1_freshest 22 = .ok (.iload_n 2, 1) := dX1_freshest_r0.2.2.2.2.2.2.2.2.2.2.2.2.1
theorem dX1_freshest_23 : decode cX1_freshest 23 = .ok (.invokevirtual 85, 3) := dX1_freshest_r0.2.2.2.2.2.2.2.2.2.2.2.2.2.1
theorem dX1_freshest_26 : decode cX1_freshest 26 = .ok (.ifCond .eq 31, 3) := dX1_freshest_r0.2.2.2.2.2.2.2.2.2.2.2.2.2.2.1
theorem dX1_freshest_29 : decode cX1_freshest 29 = .ok (.iload_n 1, 1) := dX1_freshest_r0.2.2.2.2.2.2.2.2.2.2.2.2.2.2.2.1
theorem dX1_freshest_r30 : zdcP cX1_freshest 30 [(.iconst (-1), 1), (.if_icmp .eq 24, 3), (.aload_n 0, 1), (.getfield 26, 3), (.getfield 88, 3), (.iload_n 2, 1), (.iaload, 1), (.aload_n 0, 1), (.getfield 26, 3), (.getfield 88, 3), (.iload_n 1, 1), (.iaload, 1), (.if_icmp .ge 5, 3), (.iload_n 2, 1), (.istore_n 1, 1), (.iinc 2 1, 3)] := zdcA_ok (by decide +kernel)
theorem dX1_freshest_30 : decode cX1_freshest 30 = .ok (.iconst (-1), 1) := dX1_freshest_r30.1
theorem dX1_freshest_31 : decode cX1_freshest 31 = .ok (.if_icmp .eq 24, 3) := dX1_freshest_r30.2.1
theorem dX1_freshest_34 : decode cX1_freshest 34 = .ok (.aload_n 0, 1) := dX1_freshest_r30.2.2.1
theorem dX1_freshest_35 : decode cX1_freshest 35 = .ok (.getfield 26, 3) := dX1_freshest_r30.2.2.2.1
theorem dX1_freshest_38 : decode cX1_freshest 38 = .ok (.getfield 88, 3) := dX1_freshest_r30.2.2.2.2.1
theorem dX1_freshest_41 : decode cX1_freshest 41 = .ok (.iload_n 2, 1) := dX1_freshest_r30.2.2.2.2.2.1
theorem dX1_freshest_42 : decode cX1_freshest 42 = .ok (.iaload, 1) := dX1_freshest_r30.2.2.2.2.2.2.1
theorem dX1_freshest_43 : decode cX1_freshest 43 = .ok (.aload_n 0, 1) := dX1_freshest_r30.2.2.2.2.2.2.2.1
theorem dX1_freshest_44 : decode cX1_freshest 44 = .ok (.getfield 26, 3) := dX1_freshest_r30.2.2.2.2.2.2.2.2.1
theorem dX1_freshest_47 : decode cX1_freshest 47 = .ok (.getfield 88, 3) := dX1_freshest_r30.2.2.2.2.2.2.2.2.2.1
theorem dX1_freshest_50 : decode cX1_freshest 50 = .ok (.iload_n 1, 1) := dX1_freshest_r30.2.2.2.2.2.2.2.2.2.2.1
theorem dX1_freshest_51 : decode cX1_freshest 51 = .ok (.iaload, 1) := dX1_freshest_r30.2.2.2.2.2.2.2.2.2.2.2.1
theorem dX1_freshest_52 : decode cX1_freshest 52 = .ok (.if_icmp .ge 5, 3) := dX1_freshest_r30.2.2.2.2.2.2.2.2.2.2.2.2.1
theorem dX1_freshest_55 : decode cX1_freshest 55 = .ok (.iload_n 2, 1) := dX1_freshest_r30.2.2.2.2.2.2.2.2.2.2.2.2.2.1
theorem dX1_freshest_56 : decode cX1_freshest 56 = .ok (.istore_n 1, 1) := dX1_freshest_r30.2.2.2.2.2.2.2.2.2.2.2.2.2.2.1
theorem dX1_freshest_57 : decode cX1_freshest 57 = .ok (.iinc 2 1, 3) := dX1_freshest_r30.2.2.2.2.2.2.2.2.2.2.2.2.2.2.2.1
theorem dX1_freshest_r60 : zdcP cX1_freshest 60 [(.goto (-56), 3), (.iload_n 1, 1), (.ireturn, 1)] := zdcA_ok (by decide +kernel)
theorem dX1_freshest_60 : decode cX1_freshest 60 = .ok (.goto (-56), 3) := dX1_freshest_r60.1
theorem dX1_freshest_63 : decode cX1_freshest 63 = .ok (.iload_n 1, 1) := dX1_freshest_r60.2.1
theorem dX1_freshest_64 : decode cX1_freshest 64 = .ok (.ireturn, 1) := dX1_freshest_r60.2.2.1
def wq_12_4 (Q : Int32 → zf_Me → Prop) : Nat → Int32 → Int32 → zf_Me → Prop
  | 0, _, _, _ => False
  | n + 1, v1, v2, m => ((v2.toInt ≥ ((m.1 3 5)).toInt → Q v1 m) ∧ (v2.toInt < ((m.1 3 5)).toInt → wp_53 19 3 20 v2 m (fun b1 m2 => ((b1 = false → wq_12_4 Q n v1 (v2 + 1) m2) ∧ (b1 = true → ((v1.toInt = (-1) → wq_12_4 Q n v2 (v2 + 1) m2) ∧ (¬ v1.toInt = (-1) → ((0 ≤ (Int32.toInt v2) ∧ (Int32.toInt v2) < (6 : Int)) ∧ ((0 ≤ (Int32.toInt v1) ∧ (Int32.toInt v1) < (6 : Int)) ∧ ((((m2.1 20 (Int32.toInt v2).toNat)).toInt ≥ ((m2.1 20 (Int32.toInt v1).toNat)).toInt → wq_12_4 Q n v1 (v2 + 1) m2) ∧ (((m2.1 20 (Int32.toInt v2).toNat)).toInt < ((m2.1 20 (Int32.toInt v1).toNat)).toInt → wq_12_4 Q n v2 (v2 + 1) m2)))))))))))
theorem zq_12_4 {d : Nat} (hd : 2 ≤ d) {Q : Int32 → zf_Me → Prop} : ∀ (n : Nat) (v1 : Int32) (v2 : Int32) (m : zf_Me), wq_12_4 Q n v1 v2 m → zf_W none 0 0 d zt_12 4 [some (.inr (.inr (1, 18))), some (.inl v1), some (.inl v2)] [] m (zf_I Q) := by
  obtain ⟨e, rfl⟩ : ∃ z, d = z + 1 := ⟨d - 1, by omega⟩
  intro n
  induction n with
  | zero =>
    intro v1 v2 m h
    exact h.elim
  | succ n ih =>
    intro v1 v2 m h
    unfold wq_12_4 at h
    refine zf_ld (pc' := 5) (v := .inl v2) dX1_freshest_4 rfl (fun _ _ _ => rfl) rfl rfl rfl ?_
    refine zf_ld (pc' := 6) (v := .inr (.inr (1, 18))) dX1_freshest_5 rfl (fun _ _ _ => rfl) rfl rfl rfl ?_
    refine zf_gfr (pc' := 9) (b := 19) dX1_freshest_6 rfl rfl (by decide) rfl rfl ?_
    refine zf_gfr (pc' := 12) (b := 3) dX1_freshest_9 rfl rfl zf_walk19.1 zf_walk19.2.1 rfl ?_
    refine zf_gfi (pc' := 15) dX1_freshest_12 rfl rfl zf_walk19.2.2.1.1 zf_walk19.2.2.1.2.1 rfl ?_
    refine zf_icmp_ge (tgt := 63) (pc' := 18) dX1_freshest_15 rfl rfl (fun g => ?_) (fun g => ?_)
    · replace h := h.1 g
      refine zf_ld (pc' := 64) (v := .inl v1) dX1_freshest_63 rfl (fun _ _ _ => rfl) rfl rfl rfl ?_
      exact zf_ri dX1_freshest_64 rfl h
    · replace h := h.2 g
      refine zf_ld (pc' := 19) (v := .inr (.inr (1, 18))) dX1_freshest_18 rfl (fun _ _ _ => rfl) rfl rfl rfl ?_
      refine zf_gfr (pc' := 22) (b := 19) dX1_freshest_19 rfl rfl (by decide) rfl rfl ?_
      refine zf_ld (pc' := 23) (v := .inl v2) dX1_freshest_22 rfl (fun _ _ _ => rfl) rfl rfl rfl ?_
      refine zf_iv (k := 53) (pc' := 26) (r := []) dX1_freshest_23 rfl rfl rfl rfl zf_walk19.1 zf_walk19.2.1 rfl rfl (zr_53 (by omega) zf_walk19 h) (zf_kB (fun b1 m2 h => ?_))
      refine zf_ib_eq (tgt := 57) (pc' := 29) dX1_freshest_26 rfl rfl (fun g => ?_) (fun g => ?_)
      · replace h := h.1 g
        refine zf_ii (y := (v2 + 1)) (L2 := [some (.inr (.inr (1, 18))), some (.inl v1), some (.inl (v2 + 1))]) (pc' := 60) dX1_freshest_57 rfl rfl rfl rfl rfl ?_
        refine zf_goto (tgt := 4) dX1_freshest_60 rfl ?_
        exact zf_lo (ih _ _ _ h) ⟨rfl, rfl, rfl, trivial⟩
      · replace h := h.2 g
        refine zf_ld (pc' := 30) (v := .inl v1) dX1_freshest_29 rfl (fun _ _ _ => rfl) rfl rfl rfl ?_
        refine zf_ic (v := (-1)) (pc' := 31) dX1_freshest_30 rfl rfl ?_
        refine zf_icmp_eq (tgt := 55) (pc' := 34) dX1_freshest_31 rfl rfl (fun g => ?_) (fun g => ?_)
        · replace h := h.1 g
          refine zf_ld (pc' := 56) (v := .inl v2) dX1_freshest_55 rfl (fun _ _ _ => rfl) rfl rfl rfl ?_
          refine zf_st (pc' := 57) (L2 := [some (.inr (.inr (1, 18))), some (.inl v2), some (.inl v2)]) dX1_freshest_56 rfl (fun _ _ _ => rfl) rfl rfl rfl rfl rfl rfl ?_
          refine zf_ii (y := (v2 + 1)) (L2 := [some (.inr (.inr (1, 18))), some (.inl v2), some (.inl (v2 + 1))]) (pc' := 60) dX1_freshest_57 rfl rfl rfl rfl rfl ?_
          refine zf_goto (tgt := 4) dX1_freshest_60 rfl ?_
          exact zf_lo (ih _ _ _ h) ⟨rfl, rfl, rfl, trivial⟩
        · replace h := h.2 g
          refine zf_ld (pc' := 35) (v := .inr (.inr (1, 18))) dX1_freshest_34 rfl (fun _ _ _ => rfl) rfl rfl rfl ?_
          refine zf_gfr (pc' := 38) (b := 19) dX1_freshest_35 rfl rfl (by decide) rfl rfl ?_
          refine zf_gfr (pc' := 41) (b := 20) dX1_freshest_38 rfl rfl zf_walk19.1 zf_walk19.2.1 rfl ?_
          refine zf_ld (pc' := 42) (v := .inl v2) dX1_freshest_41 rfl (fun _ _ _ => rfl) rfl rfl rfl ?_
          refine zf_ial (pc' := 43) dX1_freshest_42 rfl zf_walk19.2.2.2.1 zf_walk19.2.2.2.2 h.1 rfl ?_
          replace h := h.2
          refine zf_ld (pc' := 44) (v := .inr (.inr (1, 18))) dX1_freshest_43 rfl (fun _ _ _ => rfl) rfl rfl rfl ?_
          refine zf_gfr (pc' := 47) (b := 19) dX1_freshest_44 rfl rfl (by decide) rfl rfl ?_
          refine zf_gfr (pc' := 50) (b := 20) dX1_freshest_47 rfl rfl zf_walk19.1 zf_walk19.2.1 rfl ?_
          refine zf_ld (pc' := 51) (v := .inl v1) dX1_freshest_50 rfl (fun _ _ _ => rfl) rfl rfl rfl ?_
          refine zf_ial (pc' := 52) dX1_freshest_51 rfl zf_walk19.2.2.2.1 zf_walk19.2.2.2.2 h.1 rfl ?_
          replace h := h.2
          refine zf_icmp_ge (tgt := 57) (pc' := 55) dX1_freshest_52 rfl rfl (fun g => ?_) (fun g => ?_)
          · replace h := h.1 g
            refine zf_ii (y := (v2 + 1)) (L2 := [some (.inr (.inr (1, 18))), some (.inl v1), some (.inl (v2 + 1))]) (pc' := 60) dX1_freshest_57 rfl rfl rfl rfl rfl ?_
            refine zf_goto (tgt := 4) dX1_freshest_60 rfl ?_
            exact zf_lo (ih _ _ _ h) ⟨rfl, rfl, rfl, trivial⟩
          · replace h := h.2 g
            refine zf_ld (pc' := 56) (v := .inl v2) dX1_freshest_55 rfl (fun _ _ _ => rfl) rfl rfl rfl ?_
            refine zf_st (pc' := 57) (L2 := [some (.inr (.inr (1, 18))), some (.inl v2), some (.inl v2)]) dX1_freshest_56 rfl (fun _ _ _ => rfl) rfl rfl rfl rfl rfl rfl ?_
            refine zf_ii (y := (v2 + 1)) (L2 := [some (.inr (.inr (1, 18))), some (.inl v2), some (.inl (v2 + 1))]) (pc' := 60) dX1_freshest_57 rfl rfl rfl rfl rfl ?_
            refine zf_goto (tgt := 4) dX1_freshest_60 rfl ?_
            exact zf_lo (ih _ _ _ h) ⟨rfl, rfl, rfl, trivial⟩
def wp_12 (m : zf_Me) (Q : Int32 → zf_Me → Prop) : Prop := (∃ n4, wq_12_4 Q n4 (-1) 0 m)
theorem zr_12 {d : Nat} (hd : 2 ≤ d) {Q : Int32 → zf_Me → Prop} {m : zf_Me} (h : wp_12 m Q) : zf_M d 12 [.inr (.inr (1, 18))] m (zf_I Q) := by
  unfold wp_12 at h
  refine zf_M_of (Nat.le_of_ble_eq_true rfl) zm_12 (L := [some (.inr (.inr (1, 18))), none, none]) rfl ?_
  refine zf_ic (v := (-1)) (pc' := 1) dX1_freshest_0 rfl rfl ?_
  refine zf_st (pc' := 2) (L2 := [some (.inr (.inr (1, 18))), some (.inl (-1)), none]) dX1_freshest_1 rfl (fun _ _ _ => rfl) rfl rfl rfl rfl rfl rfl ?_
  refine zf_ic (v := 0) (pc' := 3) dX1_freshest_2 rfl rfl ?_
  refine zf_st (pc' := 4) (L2 := [some (.inr (.inr (1, 18))), some (.inl (-1)), some (.inl 0)]) dX1_freshest_3 rfl (fun _ _ _ => rfl) rfl rfl rfl rfl rfl rfl ?_
  obtain ⟨n4, h⟩ := h
  exact zf_lo (zq_12_4 (by omega) n4 _ _ _ h) ⟨rfl, rfl, rfl, trivial⟩
def zt_10 : zx_MT := (1, yX1_choose, cX1_choose, 3, (some FieldType.int), 1, 0)
theorem zm_10 : zx_m 10 = zt_10 := rfl
theorem dX1_choose_r0 : zdcP cX1_choose 0 [(.iload_n 1, 1), (.iconst 2, 1), (.if_icmp .lt 18, 3), (.aload_n 0, 1), (.getfield 26, 3), (.bipush 6, 2), (.invokevirtual 76, 3), (.ifCond .eq 6, 3), (.bipush 6, 2), (.ireturn, 1), (.iload_n 1, 1), (.iconst 3, 1), (.if_icmp .ne 18, 3), (.aload_n 0, 1), (.getfield 26, 3), (.bipush 7, 2)] := zdcA_ok (by decide +kernel)
theorem dX1_choose_0 : decode cX1_choose 0 = .ok (.iload_n 1, 1) := dX1_choose_r0.1
theorem dX1_choose_1 : decode cX1_choose 1 = .ok (.iconst 2, 1) := dX1_choose_r0.2.1
theorem dX1_choose_2 : decode cX1_choose 2 = .ok (.if_icmp .lt 18, 3) := dX1_choose_r0.2.2.1
theorem dX1_choose_5 : decode cX1_choose 5 = .ok (.aload_n 0, 1) := dX1_choose_r0.2.2.2.1
theorem dX1_choose_6 : decode cX1_choose 6 = .ok (.getfield 26, 3) := dX1_choose_r0.2.2.2.2.1
theorem dX1_choose_9 : decode cX1_choose 9 = .ok (.bipush 6, 2) := dX1_choose_r0.2.2.2.2.2.1
theorem dX1_choose_11 : decode cX1_choose 11 = .ok (.invokevirtual 76, 3) := dX1_choose_r0.2.2.2.2.2.2.1
theorem dX1_choose_14 : decode cX1_choose 14 = .ok (.ifCond .eq 6, 3) := dX1_choose_r0.2.2.2.2.2.2.2.1
theorem dX1_choose_17 : decode cX1_choose 17 = .ok (.bipush 6, 2) := dX1_choose_r0.2.2.2.2.2.2.2.2.1
theorem dX1_choose_19 : decode cX1_choose 19 = .ok (.ireturn, 1) := dX1_choose_r0.2.2.2.2.2.2.2.2.2.1
theorem dX1_choose_20 : decode cX1_choose 20 = .ok (.iload_n 1, 1) := dX1_choose_r0.2.2.2.2.2.2.2.2.2.2.1
theorem dX1_choose_21 : decode cX1_choose 21 = .ok (.iconst 3, 1) := dX1_choose_r0.2.2.2.2.2.2.2.2.2.2.2.1
theorem dX1_choose_22 : decode cX1_choose 22 = .ok (.if_icmp .ne 18, 3) := dX1_choose_r0.2.2.2.2.2.2.2.2.2.2.2.2.1
theorem dX1_choose_25 : decode cX1_choose 25 = .ok (.aload_n 0, 1) := dX1_choose_r0.2.2.2.2.2.2.2.2.2.2.2.2.2.1
theorem dX1_choose_26 : decode cX1_choose 26 = .ok (.getfield 26, 3) := dX1_choose_r0.2.2.2.2.2.2.2.2.2.2.2.2.2.2.1
theorem dX1_choose_29 : decode cX1_choose 29 = .ok (.bipush 7, 2) := dX1_choose_r0.2.2.2.2.2.2.2.2.2.2.2.2.2.2.2.1
theorem dX1_choose_r31 : zdcP cX1_choose 31 [(.invokevirtual 76, 3), (.ifCond .eq 6, 3), (.bipush 7, 2), (.ireturn, 1), (.iload_n 1, 1), (.iconst 3, 1), (.if_icmp .ne 18, 3), (.aload_n 0, 1), (.getfield 26, 3), (.bipush 8, 2), (.invokevirtual 76, 3), (.ifCond .eq 6, 3), (.bipush 8, 2), (.ireturn, 1), (.iload_n 1, 1), (.ifCond .ne 10, 3)] := zdcA_ok (by decide +kernel)
theorem dX1_choose_31 : decode cX1_choose 31 = .ok (.invokevirtual 76, 3) := dX1_choose_r31.1
theorem dX1_choose_34 : decode cX1_choose 34 = .ok (.ifCond .eq 6, 3) := dX1_choose_r31.2.1
theorem dX1_choose_37 : decode cX1_choose 37 = .ok (.bipush 7, 2) := dX1_choose_r31.2.2.1
theorem dX1_choose_39 : decode cX1_choose 39 = .ok (.ireturn, 1) := dX1_choose_r31.2.2.2.1
theorem dX1_choose_40 : decode cX1_choose 40 = .ok (.iload_n 1, 1) := dX1_choose_r31.2.2.2.2.1
theorem dX1_choose_41 : decode cX1_choose 41 = .ok (.iconst 3, 1) := dX1_choose_r31.2.2.2.2.2.1
theorem dX1_choose_42 : decode cX1_choose 42 = .ok (.if_icmp .ne 18, 3) := dX1_choose_r31.2.2.2.2.2.2.1
theorem dX1_choose_45 : decode cX1_choose 45 = .ok (.aload_n 0, 1) := dX1_choose_r31.2.2.2.2.2.2.2.1
theorem dX1_choose_46 : decode cX1_choose 46 = .ok (.getfield 26, 3) := dX1_choose_r31.2.2.2.2.2.2.2.2.1
theorem dX1_choose_49 : decode cX1_choose 49 = .ok (.bipush 8, 2) := dX1_choose_r31.2.2.2.2.2.2.2.2.2.1
theorem dX1_choose_51 : decode cX1_choose 51 = .ok (.invokevirtual 76, 3) := dX1_choose_r31.2.2.2.2.2.2.2.2.2.2.1
theorem dX1_choose_54 : decode cX1_choose 54 = .ok (.ifCond .eq 6, 3) := dX1_choose_r31.2.2.2.2.2.2.2.2.2.2.2.1
theorem dX1_choose_57 : decode cX1_choose 57 = .ok (.bipush 8, 2) := dX1_choose_r31.2.2.2.2.2.2.2.2.2.2.2.2.1
theorem dX1_choose_59 : decode cX1_choose 59 = .ok (.ireturn, 1) := dX1_choose_r31.2.2.2.2.2.2.2.2.2.2.2.2.2.1
theorem dX1_choose_60 : decode cX1_choose 60 = .ok (.iload_n 1, 1) := dX1_choose_r31.2.2.2.2.2.2.2.2.2.2.2.2.2.2.1
theorem dX1_choose_61 : decode cX1_choose 61 = .ok (.ifCond .ne 10, 3) := dX1_choose_r31.2.2.2.2.2.2.2.2.2.2.2.2.2.2.2.1
theorem dX1_choose_r64 : zdcP cX1_choose 64 [(.aload_n 0, 1), (.invokevirtual 79, 3), (.goto 7, 3), (.aload_n 0, 1), (.invokevirtual 82, 3), (.istore_n 2, 1), (.iload_n 2, 1), (.iconst (-1), 1), (.if_icmp .eq 5, 3), (.iload_n 2, 1), (.ireturn, 1), (.aload_n 0, 1), (.getfield 26, 3), (.bipush 6, 2), (.invokevirtual 76, 3), (.ifCond .eq 6, 3)] := zdcA_ok (by decide +kernel)
theorem dX1_choose_64 : decode cX1_choose 64 = .ok (.aload_n 0, 1) := dX1_choose_r64.1
theorem dX1_choose_65 : decode cX1_choose 65 = .ok (.invokevirtual 79, 3) := dX1_choose_r64.2.1
theorem dX1_choose_68 : decode cX1_choose 68 = .ok (.goto 7, 3) := dX1_choose_r64.2.2.1
theorem dX1_choose_71 : decode cX1_choose 71 = .ok (.aload_n 0, 1) := dX1_choose_r64.2.2.2.1
theorem dX1_choose_72 : decode cX1_choose 72 = .ok (.invokevirtual 82, 3) := dX1_choose_r64.2.2.2.2.1
theorem dX1_choose_75 : decode cX1_choose 75 = .ok (.istore_n 2, 1) := dX1_choose_r64.2.2.2.2.2.1
theorem dX1_choose_76 : decode cX1_choose 76 = .ok (.iload_n 2, 1) := dX1_choose_r64.2.2.2.2.2.2.1
theorem dX1_choose_77 : decode cX1_choose 77 = .ok (.iconst (-1), 1) := dX1_choose_r64.2.2.2.2.2.2.2.1
theorem dX1_choose_78 : decode cX1_choose 78 = .ok (.if_icmp .eq 5, 3) := dX1_choose_r64.2.2.2.2.2.2.2.2.1
theorem dX1_choose_81 : decode cX1_choose 81 = .ok (.iload_n 2, 1) := dX1_choose_r64.2.2.2.2.2.2.2.2.2.1
theorem dX1_choose_82 : decode cX1_choose 82 = .ok (.ireturn, 1) := dX1_choose_r64.2.2.2.2.2.2.2.2.2.2.1
theorem dX1_choose_83 : decode cX1_choose 83 = .ok (.aload_n 0, 1) := dX1_choose_r64.2.2.2.2.2.2.2.2.2.2.2.1
theorem dX1_choose_84 : decode cX1_choose 84 = .ok (.getfield 26, 3) := dX1_choose_r64.2.2.2.2.2.2.2.2.2.2.2.2.1
theorem dX1_choose_87 : decode cX1_choose 87 = .ok (.bipush 6, 2) := dX1_choose_r64.2.2.2.2.2.2.2.2.2.2.2.2.2.1
theorem dX1_choose_89 : decode cX1_choose 89 = .ok (.invokevirtual 76, 3) := dX1_choose_r64.2.2.2.2.2.2.2.2.2.2.2.2.2.2.1
theorem dX1_choose_92 : decode cX1_choose 92 = .ok (.ifCond .eq 6, 3) := dX1_choose_r64.2.2.2.2.2.2.2.2.2.2.2.2.2.2.2.1
theorem dX1_choose_r95 : zdcP cX1_choose 95 [(.bipush 6, 2), (.ireturn, 1), (.aload_n 0, 1), (.getfield 26, 3), (.bipush 9, 2), (.invokevirtual 76, 3), (.ifCond .eq 8, 3), (.bipush 9, 2), (.goto 4, 3), (.iconst (-1), 1), (.ireturn, 1)] := zdcA_ok (by decide +kernel)
theorem dX1_choose_95 : decode cX1_choose 95 = .ok (.bipush 6, 2) := dX1_choose_r95.1
theorem dX1_choose_97 : decode cX1_choose 97 = .ok (.ireturn, 1) := dX1_choose_r95.2.1
theorem dX1_choose_98 : decode cX1_choose 98 = .ok (.aload_n 0, 1) := dX1_choose_r95.2.2.1
theorem dX1_choose_99 : decode cX1_choose 99 = .ok (.getfield 26, 3) := dX1_choose_r95.2.2.2.1
theorem dX1_choose_102 : decode cX1_choose 102 = .ok (.bipush 9, 2) := dX1_choose_r95.2.2.2.2.1
theorem dX1_choose_104 : decode cX1_choose 104 = .ok (.invokevirtual 76, 3) := dX1_choose_r95.2.2.2.2.2.1
theorem dX1_choose_107 : decode cX1_choose 107 = .ok (.ifCond .eq 8, 3) := dX1_choose_r95.2.2.2.2.2.2.1
theorem dX1_choose_110 : decode cX1_choose 110 = .ok (.bipush 9, 2) := dX1_choose_r95.2.2.2.2.2.2.2.1
theorem dX1_choose_112 : decode cX1_choose 112 = .ok (.goto 4, 3) := dX1_choose_r95.2.2.2.2.2.2.2.2.1
theorem dX1_choose_115 : decode cX1_choose 115 = .ok (.iconst (-1), 1) := dX1_choose_r95.2.2.2.2.2.2.2.2.2.1
theorem dX1_choose_116 : decode cX1_choose 116 = .ok (.ireturn, 1) := dX1_choose_r95.2.2.2.2.2.2.2.2.2.2.1
def wq_10_75 (v1 : Int32) (u0 : Int32) (m : zf_Me) (Q : Int32 → zf_Me → Prop) : Prop := ((u0.toInt = (-1) → wp_52 19 3 20 6 m (fun b3 m4 => ((b3 = false → wp_52 19 3 20 9 m4 (fun b5 m6 => ((b5 = false → Q (-1) m6) ∧ (b5 = true → Q 9 m6)))) ∧ (b3 = true → Q 6 m4)))) ∧ (¬ u0.toInt = (-1) → Q u0 m))
theorem zq_10_75 {d : Nat} (hd : 3 ≤ d) {v1 : Int32} {Q : Int32 → zf_Me → Prop} {u0 : Int32} {m : zf_Me} (h : wq_10_75 v1 u0 m Q) : zf_W none 0 0 d zt_10 75 [some (.inr (.inr (1, 18))), none, none] [.inl u0] m (zf_I Q) := by
  obtain ⟨e, rfl⟩ : ∃ z, d = z + 1 := ⟨d - 1, by omega⟩
  unfold wq_10_75 at h
  refine zf_st (pc' := 76) (L2 := [some (.inr (.inr (1, 18))), none, some (.inl u0)]) dX1_choose_75 rfl (fun _ _ _ => rfl) rfl rfl rfl rfl rfl rfl ?_
  refine zf_ld (pc' := 77) (v := .inl u0) dX1_choose_76 rfl (fun _ _ _ => rfl) rfl rfl rfl ?_
  refine zf_ic (v := (-1)) (pc' := 78) dX1_choose_77 rfl rfl ?_
  refine zf_icmp_eq (tgt := 83) (pc' := 81) dX1_choose_78 rfl rfl (fun g => ?_) (fun g => ?_)
  · replace h := h.1 g
    refine zf_ld (pc' := 84) (v := .inr (.inr (1, 18))) dX1_choose_83 rfl (fun _ _ _ => rfl) rfl rfl rfl ?_
    refine zf_gfr (pc' := 87) (b := 19) dX1_choose_84 rfl rfl (by decide) rfl rfl ?_
    refine zf_bi (v := 6) (pc' := 89) dX1_choose_87 rfl rfl ?_
    refine zf_iv (k := 52) (pc' := 92) (r := []) dX1_choose_89 rfl rfl rfl rfl zf_walk19.1 zf_walk19.2.1 rfl rfl (zr_52 (by omega) zf_walk19 h) (zf_kB (fun b3 m4 h => ?_))
    refine zf_ib_eq (tgt := 98) (pc' := 95) dX1_choose_92 rfl rfl (fun g => ?_) (fun g => ?_)
    · replace h := h.1 g
      refine zf_ld (pc' := 99) (v := .inr (.inr (1, 18))) dX1_choose_98 rfl (fun _ _ _ => rfl) rfl rfl rfl ?_
      refine zf_gfr (pc' := 102) (b := 19) dX1_choose_99 rfl rfl (by decide) rfl rfl ?_
      refine zf_bi (v := 9) (pc' := 104) dX1_choose_102 rfl rfl ?_
      refine zf_iv (k := 52) (pc' := 107) (r := []) dX1_choose_104 rfl rfl rfl rfl zf_walk19.1 zf_walk19.2.1 rfl rfl (zr_52 (by omega) zf_walk19 h) (zf_kB (fun b5 m6 h => ?_))
      refine zf_ib_eq (tgt := 115) (pc' := 110) dX1_choose_107 rfl rfl (fun g => ?_) (fun g => ?_)
      · replace h := h.1 g
        refine zf_ic (v := (-1)) (pc' := 116) dX1_choose_115 rfl rfl ?_
        exact zf_ri dX1_choose_116 rfl h
      · replace h := h.2 g
        refine zf_bi (v := 9) (pc' := 112) dX1_choose_110 rfl rfl ?_
        refine zf_goto (tgt := 116) dX1_choose_112 rfl ?_
        exact zf_ri dX1_choose_116 rfl h
    · replace h := h.2 g
      refine zf_bi (v := 6) (pc' := 97) dX1_choose_95 rfl rfl ?_
      exact zf_ri dX1_choose_97 rfl h
  · replace h := h.2 g
    refine zf_ld (pc' := 82) (v := .inl u0) dX1_choose_81 rfl (fun _ _ _ => rfl) rfl rfl rfl ?_
    exact zf_ri dX1_choose_82 rfl h
def wq_10_60 (v1 : Int32) (m : zf_Me) (Q : Int32 → zf_Me → Prop) : Prop := ((¬ v1.toInt = 0 → wp_12 m (fun x1 m2 => wq_10_75 v1 x1 m2 Q)) ∧ (v1.toInt = 0 → wp_11 m (fun x7 m8 => wq_10_75 v1 x7 m8 Q)))
theorem zq_10_60 {d : Nat} (hd : 3 ≤ d) {v1 : Int32} {Q : Int32 → zf_Me → Prop} {m : zf_Me} (h : wq_10_60 v1 m Q) : zf_W none 0 0 d zt_10 60 [some (.inr (.inr (1, 18))), some (.inl v1), none] [] m (zf_I Q) := by
  obtain ⟨e, rfl⟩ : ∃ z, d = z + 1 := ⟨d - 1, by omega⟩
  unfold wq_10_60 at h
  refine zf_ld (pc' := 61) (v := .inl v1) dX1_choose_60 rfl (fun _ _ _ => rfl) rfl rfl rfl ?_
  refine zf_if_ne (tgt := 71) (pc' := 64) dX1_choose_61 rfl rfl (fun g => ?_) (fun g => ?_)
  · replace h := h.1 g
    refine zf_ld (pc' := 72) (v := .inr (.inr (1, 18))) dX1_choose_71 rfl (fun _ _ _ => rfl) rfl rfl rfl ?_
    refine zf_iv (k := 12) (pc' := 75) (r := []) dX1_choose_72 rfl rfl rfl rfl (by decide) rfl rfl rfl (zr_12 (by omega) h) (zf_kI (fun x1 m2 h => ?_))
    exact zf_lo (zq_10_75 (by omega) h) ⟨rfl, trivial⟩
  · replace h := h.2 g
    refine zf_ld (pc' := 65) (v := .inr (.inr (1, 18))) dX1_choose_64 rfl (fun _ _ _ => rfl) rfl rfl rfl ?_
    refine zf_iv (k := 11) (pc' := 68) (r := []) dX1_choose_65 rfl rfl rfl rfl (by decide) rfl rfl rfl (zr_11 (by omega) h) (zf_kI (fun x7 m8 h => ?_))
    refine zf_goto (tgt := 75) dX1_choose_68 rfl ?_
    exact zf_lo (zq_10_75 (by omega) h) ⟨rfl, trivial⟩
def wq_10_40 (v1 : Int32) (m : zf_Me) (Q : Int32 → zf_Me → Prop) : Prop := ((¬ v1.toInt = 3 → wq_10_60 v1 m Q) ∧ (v1.toInt = 3 → wp_52 19 3 20 8 m (fun b9 m10 => ((b9 = false → wq_10_60 v1 m10 Q) ∧ (b9 = true → Q 8 m10)))))
theorem zq_10_40 {d : Nat} (hd : 3 ≤ d) {v1 : Int32} {Q : Int32 → zf_Me → Prop} {m : zf_Me} (h : wq_10_40 v1 m Q) : zf_W none 0 0 d zt_10 40 [some (.inr (.inr (1, 18))), some (.inl v1), none] [] m (zf_I Q) := by
  obtain ⟨e, rfl⟩ : ∃ z, d = z + 1 := ⟨d - 1, by omega⟩
  unfold wq_10_40 at h
  refine zf_ld (pc' := 41) (v := .inl v1) dX1_choose_40 rfl (fun _ _ _ => rfl) rfl rfl rfl ?_
  refine zf_ic (v := 3) (pc' := 42) dX1_choose_41 rfl rfl ?_
  refine zf_icmp_ne (tgt := 60) (pc' := 45) dX1_choose_42 rfl rfl (fun g => ?_) (fun g => ?_)
  · replace h := h.1 g
    exact zf_lo (zq_10_60 (by omega) h) ⟨rfl, rfl, trivial⟩
  · replace h := h.2 g
    refine zf_ld (pc' := 46) (v := .inr (.inr (1, 18))) dX1_choose_45 rfl (fun _ _ _ => rfl) rfl rfl rfl ?_
    refine zf_gfr (pc' := 49) (b := 19) dX1_choose_46 rfl rfl (by decide) rfl rfl ?_
    refine zf_bi (v := 8) (pc' := 51) dX1_choose_49 rfl rfl ?_
    refine zf_iv (k := 52) (pc' := 54) (r := []) dX1_choose_51 rfl rfl rfl rfl zf_walk19.1 zf_walk19.2.1 rfl rfl (zr_52 (by omega) zf_walk19 h) (zf_kB (fun b9 m10 h => ?_))
    refine zf_ib_eq (tgt := 60) (pc' := 57) dX1_choose_54 rfl rfl (fun g => ?_) (fun g => ?_)
    · replace h := h.1 g
      exact zf_lo (zq_10_60 (by omega) h) ⟨rfl, rfl, trivial⟩
    · replace h := h.2 g
      refine zf_bi (v := 8) (pc' := 59) dX1_choose_57 rfl rfl ?_
      exact zf_ri dX1_choose_59 rfl h
def wq_10_20 (v1 : Int32) (m : zf_Me) (Q : Int32 → zf_Me → Prop) : Prop := ((¬ v1.toInt = 3 → wq_10_40 v1 m Q) ∧ (v1.toInt = 3 → wp_52 19 3 20 7 m (fun b11 m12 => ((b11 = false → wq_10_40 v1 m12 Q) ∧ (b11 = true → Q 7 m12)))))
theorem zq_10_20 {d : Nat} (hd : 3 ≤ d) {v1 : Int32} {Q : Int32 → zf_Me → Prop} {m : zf_Me} (h : wq_10_20 v1 m Q) : zf_W none 0 0 d zt_10 20 [some (.inr (.inr (1, 18))), some (.inl v1), none] [] m (zf_I Q) := by
  obtain ⟨e, rfl⟩ : ∃ z, d = z + 1 := ⟨d - 1, by omega⟩
  unfold wq_10_20 at h
  refine zf_ld (pc' := 21) (v := .inl v1) dX1_choose_20 rfl (fun _ _ _ => rfl) rfl rfl rfl ?_
  refine zf_ic (v := 3) (pc' := 22) dX1_choose_21 rfl rfl ?_
  refine zf_icmp_ne (tgt := 40) (pc' := 25) dX1_choose_22 rfl rfl (fun g => ?_) (fun g => ?_)
  · replace h := h.1 g
    exact zf_lo (zq_10_40 (by omega) h) ⟨rfl, rfl, trivial⟩
  · replace h := h.2 g
    refine zf_ld (pc' := 26) (v := .inr (.inr (1, 18))) dX1_choose_25 rfl (fun _ _ _ => rfl) rfl rfl rfl ?_
    refine zf_gfr (pc' := 29) (b := 19) dX1_choose_26 rfl rfl (by decide) rfl rfl ?_
    refine zf_bi (v := 7) (pc' := 31) dX1_choose_29 rfl rfl ?_
    refine zf_iv (k := 52) (pc' := 34) (r := []) dX1_choose_31 rfl rfl rfl rfl zf_walk19.1 zf_walk19.2.1 rfl rfl (zr_52 (by omega) zf_walk19 h) (zf_kB (fun b11 m12 h => ?_))
    refine zf_ib_eq (tgt := 40) (pc' := 37) dX1_choose_34 rfl rfl (fun g => ?_) (fun g => ?_)
    · replace h := h.1 g
      exact zf_lo (zq_10_40 (by omega) h) ⟨rfl, rfl, trivial⟩
    · replace h := h.2 g
      refine zf_bi (v := 7) (pc' := 39) dX1_choose_37 rfl rfl ?_
      exact zf_ri dX1_choose_39 rfl h
def wp_10 (v1 : Int32) (m : zf_Me) (Q : Int32 → zf_Me → Prop) : Prop := ((v1.toInt < 2 → wq_10_20 v1 m Q) ∧ (v1.toInt ≥ 2 → wp_52 19 3 20 6 m (fun b13 m14 => ((b13 = false → wq_10_20 v1 m14 Q) ∧ (b13 = true → Q 6 m14)))))
theorem zr_10 {d : Nat} (hd : 3 ≤ d) {v1 : Int32} {Q : Int32 → zf_Me → Prop} {m : zf_Me} (h : wp_10 v1 m Q) : zf_M d 10 [.inr (.inr (1, 18)), .inl v1] m (zf_I Q) := by
  obtain ⟨e, rfl⟩ : ∃ z, d = z + 1 := ⟨d - 1, by omega⟩
  unfold wp_10 at h
  refine zf_M_of (Nat.le_of_ble_eq_true rfl) zm_10 (L := [some (.inr (.inr (1, 18))), some (.inl v1), none]) rfl ?_
  refine zf_ld (pc' := 1) (v := .inl v1) dX1_choose_0 rfl (fun _ _ _ => rfl) rfl rfl rfl ?_
  refine zf_ic (v := 2) (pc' := 2) dX1_choose_1 rfl rfl ?_
  refine zf_icmp_lt (tgt := 20) (pc' := 5) dX1_choose_2 rfl rfl (fun g => ?_) (fun g => ?_)
  · replace h := h.1 g
    exact zf_lo (zq_10_20 (by omega) h) ⟨rfl, rfl, trivial⟩
  · replace h := h.2 g
    refine zf_ld (pc' := 6) (v := .inr (.inr (1, 18))) dX1_choose_5 rfl (fun _ _ _ => rfl) rfl rfl rfl ?_
    refine zf_gfr (pc' := 9) (b := 19) dX1_choose_6 rfl rfl (by decide) rfl rfl ?_
    refine zf_bi (v := 6) (pc' := 11) dX1_choose_9 rfl rfl ?_
    refine zf_iv (k := 52) (pc' := 14) (r := []) dX1_choose_11 rfl rfl rfl rfl zf_walk19.1 zf_walk19.2.1 rfl rfl (zr_52 (by omega) zf_walk19 h) (zf_kB (fun b13 m14 h => ?_))
    refine zf_ib_eq (tgt := 20) (pc' := 17) dX1_choose_14 rfl rfl (fun g => ?_) (fun g => ?_)
    · replace h := h.1 g
      exact zf_lo (zq_10_20 (by omega) h) ⟨rfl, rfl, trivial⟩
    · replace h := h.2 g
      refine zf_bi (v := 6) (pc' := 19) dX1_choose_17 rfl rfl ?_
      exact zf_ri dX1_choose_19 rfl h
def zt_118 : zx_MT := (7, yX7_restOfKind, cX7_restOfKind, 1, (some FieldType.int), 1, 1)
theorem zm_118 : zx_m 118 = zt_118 := rfl
theorem dX7_restOfKind_r0 : zdcP cX7_restOfKind 0 [(.iload_n 0, 1), (.iconst 3, 1), (.if_icmp .ne 7, 3), (.iconst 3, 1), (.goto 4, 3), (.iconst 2, 1), (.ireturn, 1)] := zdcA_ok (by decide +kernel)
theorem dX7_restOfKind_0 : decode cX7_restOfKind 0 = .ok (.iload_n 0, 1) := dX7_restOfKind_r0.1
theorem dX7_restOfKind_1 : decode cX7_restOfKind 1 = .ok (.iconst 3, 1) := dX7_restOfKind_r0.2.1
theorem dX7_restOfKind_2 : decode cX7_restOfKind 2 = .ok (.if_icmp .ne 7, 3) := dX7_restOfKind_r0.2.2.1
theorem dX7_restOfKind_5 : decode cX7_restOfKind 5 = .ok (.iconst 3, 1) := dX7_restOfKind_r0.2.2.2.1
theorem dX7_restOfKind_6 : decode cX7_restOfKind 6 = .ok (.goto 4, 3) := dX7_restOfKind_r0.2.2.2.2.1
theorem dX7_restOfKind_9 : decode cX7_restOfKind 9 = .ok (.iconst 2, 1) := dX7_restOfKind_r0.2.2.2.2.2.1
theorem dX7_restOfKind_10 : decode cX7_restOfKind 10 = .ok (.ireturn, 1) := dX7_restOfKind_r0.2.2.2.2.2.2.1
def wp_118 (v0 : Int32) (m : zf_Me) (Q : Int32 → zf_Me → Prop) : Prop := ((¬ v0.toInt = 3 → Q 2 m) ∧ (v0.toInt = 3 → Q 3 m))
theorem zr_118 {d : Nat} (hd : 0 ≤ d) {v0 : Int32} {Q : Int32 → zf_Me → Prop} {m : zf_Me} (h : wp_118 v0 m Q) : zf_M d 118 [.inl v0] m (zf_I Q) := by
  unfold wp_118 at h
  refine zf_M_of (Nat.le_of_ble_eq_true rfl) zm_118 (L := [some (.inl v0)]) rfl ?_
  refine zf_ld (pc' := 1) (v := .inl v0) dX7_restOfKind_0 rfl (fun _ _ _ => rfl) rfl rfl rfl ?_
  refine zf_ic (v := 3) (pc' := 2) dX7_restOfKind_1 rfl rfl ?_
  refine zf_icmp_ne (tgt := 9) (pc' := 5) dX7_restOfKind_2 rfl rfl (fun g => ?_) (fun g => ?_)
  · replace h := h.1 g
    refine zf_ic (v := 2) (pc' := 10) dX7_restOfKind_9 rfl rfl ?_
    exact zf_ri dX7_restOfKind_10 rfl h
  · replace h := h.2 g
    refine zf_ic (v := 3) (pc' := 6) dX7_restOfKind_5 rfl rfl ?_
    refine zf_goto (tgt := 10) dX7_restOfKind_6 rfl ?_
    exact zf_ri dX7_restOfKind_10 rfl h
def zt_59 : zx_MT := (5, yX5_restOthers, cX5_restOthers, 4, none, 1, 0)
theorem zm_59 : zx_m 59 = zt_59 := rfl
theorem dX5_restOthers_r0 : zdcP cX5_restOthers 0 [(.iconst 0, 1), (.istore_n 2, 1), (.iload_n 2, 1), (.aload_n 0, 1), (.getfield 49, 3), (.getfield 64, 3), (.if_icmp .ge 59, 3), (.iload_n 2, 1), (.iload_n 1, 1), (.if_icmp .eq 48, 3), (.aload_n 0, 1), (.getfield 49, 3), (.getfield 59, 3), (.iload_n 2, 1), (.iaload, 1), (.invokestatic 127, 3)] := zdcA_ok (by decide +kernel)
theorem dX5_restOthers_0 : decode cX5_restOthers 0 = .ok (.iconst 0, 1) := dX5_restOthers_r0.1
theorem dX5_restOthers_1 : decode cX5_restOthers 1 = .ok (.istore_n 2, 1) := dX5_restOthers_r0.2.1
theorem dX5_restOthers_2 : decode cX5_restOthers 2 = .ok (.iload_n 2, 1) := dX5_restOthers_r0.2.2.1
theorem dX5_restOthers_3 : decode cX5_restOthers 3 = .ok (.aload_n 0, 1) := dX5_restOthers_r0.2.2.2.1
theorem dX5_restOthers_4 : decode cX5_restOthers 4 = .ok (.getfield 49, 3) := dX5_restOthers_r0.2.2.2.2.1
theorem dX5_restOthers_7 : decode cX5_restOthers 7 = .ok (.getfield 64, 3) := dX5_restOthers_r0.2.2.2.2.2.1
theorem dX5_restOthers_10 : decode cX5_restOthers 10 = .ok (.if_icmp .ge 59, 3) := dX5_restOthers_r0.2.2.2.2.2.2.1
theorem dX5_restOthers_13 : decode cX5_restOthers 13 = .ok (.iload_n 2, 1) := dX5_restOthers_r0.2.2.2.2.2.2.2.1
theorem dX5_restOthers_14 : decode cX5_restOthers 14 = .ok (.iload_n 1, 1) := dX5_restOthers_r0.2.2.2.2.2.2.2.2.1
theorem dX5_restOthers_15 : decode cX5_restOthers 15 = .ok (.if_icmp .eq 48, 3) := dX5_restOthers_r0.2.2.2.2.2.2.2.2.2.1
theorem dX5_restOthers_18 : decode cX5_restOthers 18 = .ok (.aload_n 0, 1) := dX5_restOthers_r0.2.2.2.2.2.2.2.2.2.2.1
theorem dX5_restOthers_19 : decode cX5_restOthers 19 = .ok (.getfield 49, 3) := dX5_restOthers_r0.2.2.2.2.2.2.2.2.2.2.2.1
theorem dX5_restOthers_22 : decode cX5_restOthers 22 = .ok (.getfield 59, 3) := dX5_restOthers_r0.2.2.2.2.2.2.2.2.2.2.2.2.1
theorem dX5_restOthers_25 : decode cX5_restOthers 25 = .ok (.iload_n 2, 1) := dX5_restOthers_r0.2.2.2.2.2.2.2.2.2.2.2.2.2.1
theorem dX5_restOthers_26 : decode cX5_restOthers 26 = .ok (.iaload, 1) := dX5_restOthers_r0.2.2.2.2.2.2.2.2.2.2.2.2.2.2.1
theorem dX5_restOthers_27 : decode cX5_restOthers 27 = .ok (.invokestatic 127, 3) := dX5_restOthers_r0.2.2.2.2.2.2.2.2.2.2.2.2.2.2.2.1
theorem dX5_restOthers_r30 : zdcP cX5_restOthers 30 [(.aload_n 0, 1), (.getfield 15, 3), (.iload_n 2, 1), (.if_icmp .ne 7, 3), (.iconst 1, 1), (.goto 4, 3), (.iconst 0, 1), (.isub, 1), (.istore_n 3, 1), (.aload_n 0, 1), (.getfield 9, 3), (.iload_n 2, 1), (.iconst 0, 1), (.aload_n 0, 1), (.getfield 9, 3), (.iload_n 2, 1)] := zdcA_ok (by decide +kernel)
theorem dX5_restOthers_30 : decode cX5_restOthers 30 = .ok (.aload_n 0, 1) := dX5_restOthers_r30.1
theorem dX5_restOthers_31 : decode cX5_restOthers 31 = .ok (.getfield 15, 3) := dX5_restOthers_r30.2.1
theorem dX5_restOthers_34 : decode cX5_restOthers 34 = .ok (.iload_n 2, 1) := dX5_restOthers_r30.2.2.1
theorem dX5_restOthers_35 : decode cX5_restOthers 35 = .ok (.if_icmp .ne 7, 3) := dX5_restOthers_r30.2.2.2.1
theorem dX5_restOthers_38 : decode cX5_restOthers 38 = .ok (.iconst 1, 1) := dX5_restOthers_r30.2.2.2.2.1
theorem dX5_restOthers_39 : decode cX5_restOthers 39 = .ok (.goto 4, 3) := dX5_restOthers_r30.2.2.2.2.2.1
theorem dX5_restOthers_42 : decode cX5_restOthers 42 = .ok (.iconst 0, 1) := dX5_restOthers_r30.2.2.2.2.2.2.1
theorem dX5_restOthers_43 : decode cX5_restOthers 43 = .ok (.isub, 1) := dX5_restOthers_r30.2.2.2.2.2.2.2.1
theorem dX5_restOthers_44 : decode cX5_restOthers 44 = .ok (.istore_n 3, 1) := dX5_restOthers_r30.2.2.2.2.2.2.2.2.1
theorem dX5_restOthers_45 : decode cX5_restOthers 45 = .ok (.aload_n 0, 1) := dX5_restOthers_r30.2.2.2.2.2.2.2.2.2.1
theorem dX5_restOthers_46 : decode cX5_restOthers 46 = .ok (.getfield 9, 3) := dX5_restOthers_r30.2.2.2.2.2.2.2.2.2.2.1
theorem dX5_restOthers_49 : decode cX5_restOthers 49 = .ok (.iload_n 2, 1) := dX5_restOthers_r30.2.2.2.2.2.2.2.2.2.2.2.1
theorem dX5_restOthers_50 : decode cX5_restOthers 50 = .ok (.iconst 0, 1) := dX5_restOthers_r30.2.2.2.2.2.2.2.2.2.2.2.2.1
theorem dX5_restOthers_51 : decode cX5_restOthers 51 = .ok (.aload_n 0, 1) := dX5_restOthers_r30.2.2.2.2.2.2.2.2.2.2.2.2.2.1
theorem dX5_restOthers_52 : decode cX5_restOthers 52 = .ok (.getfield 9, 3) := dX5_restOthers_r30.2.2.2.2.2.2.2.2.2.2.2.2.2.2.1
theorem dX5_restOthers_55 : decode cX5_restOthers 55 = .ok (.iload_n 2, 1) := dX5_restOthers_r30.2.2.2.2.2.2.2.2.2.2.2.2.2.2.2.1
theorem dX5_restOthers_r56 : zdcP cX5_restOthers 56 [(.iaload, 1), (.iload_n 3, 1), (.isub, 1), (.invokestatic 79, 3), (.iastore, 1), (.iinc 2 1, 3), (.goto (-64), 3), (.return_, 1)] := zdcA_ok (by decide +kernel)
theorem dX5_restOthers_56 : decode cX5_restOthers 56 = .ok (.iaload, 1) := dX5_restOthers_r56.1
theorem dX5_restOthers_57 : decode cX5_restOthers 57 = .ok (.iload_n 3, 1) := dX5_restOthers_r56.2.1
theorem dX5_restOthers_58 : decode cX5_restOthers 58 = .ok (.isub, 1) := dX5_restOthers_r56.2.2.1
theorem dX5_restOthers_59 : decode cX5_restOthers 59 = .ok (.invokestatic 79, 3) := dX5_restOthers_r56.2.2.2.1
theorem dX5_restOthers_62 : decode cX5_restOthers 62 = .ok (.iastore, 1) := dX5_restOthers_r56.2.2.2.2.1
theorem dX5_restOthers_63 : decode cX5_restOthers 63 = .ok (.iinc 2 1, 3) := dX5_restOthers_r56.2.2.2.2.2.1
theorem dX5_restOthers_66 : decode cX5_restOthers 66 = .ok (.goto (-64), 3) := dX5_restOthers_r56.2.2.2.2.2.2.1
theorem dX5_restOthers_69 : decode cX5_restOthers 69 = .ok (.return_, 1) := dX5_restOthers_r56.2.2.2.2.2.2.2.1
def wq_59_43 (w0 : Nat) (y0 : Nat) (r0 : Nat) (v1 : Int32) (F2 : Int32 → zf_Me → Prop) (v2 : Int32) (u0 : Int32) (u1 : Int32) (m : zf_Me) (Q : zf_Me → Prop) : Prop := ((0 ≤ (Int32.toInt v2) ∧ (Int32.toInt v2) < (6 : Int)) ∧ ((0 ≤ (Int32.toInt v2) ∧ (Int32.toInt v2) < (6 : Int)) ∧ ∀ m3, m3 = zf_u m r0 (Int32.toInt v2).toNat (if 0 < ((m.1 r0 (Int32.toInt v2).toNat) - (u1 - u0)) then ((m.1 r0 (Int32.toInt v2).toNat) - (u1 - u0)) else 0) → F2 (v2 + 1) m3))
theorem zq_59_43 {d : Nat} (hd : 1 ≤ d) {w0 : Nat} {y0 : Nat} {r0 : Nat} (hp0 : zf_walk w0 y0 r0) {v1 : Int32} {F2 : Int32 → zf_Me → Prop} {Q : zf_Me → Prop} (hF2 : ∀ (v2 : Int32) (m : zf_Me), F2 v2 m → zf_W none 0 0 d zt_59 2 [some (.inr (.inr (1, w0))), some (.inl v1), some (.inl v2), none] [] m (zf_O Q)) {v2 : Int32} {u0 : Int32} {u1 : Int32} {m : zf_Me} (h : wq_59_43 w0 y0 r0 v1 F2 v2 u0 u1 m Q) : zf_W none 0 0 d zt_59 43 [some (.inr (.inr (1, w0))), some (.inl v1), some (.inl v2), none] [.inl u0, .inl u1] m (zf_O Q) := by
  unfold wq_59_43 at h
  refine zf_in (pc' := 44) (S' := [.inl (u1 - u0)]) dX5_restOthers_43 rfl (fun _ _ _ => rfl) ?_
  refine zf_st (pc' := 45) (L2 := [some (.inr (.inr (1, w0))), some (.inl v1), some (.inl v2), some (.inl (u1 - u0))]) dX5_restOthers_44 rfl (fun _ _ _ => rfl) rfl rfl rfl rfl rfl rfl ?_
  refine zf_ld (pc' := 46) (v := .inr (.inr (1, w0))) dX5_restOthers_45 rfl (fun _ _ _ => rfl) rfl rfl rfl ?_
  refine zf_gfr (pc' := 49) (b := r0) dX5_restOthers_46 rfl rfl hp0.1 hp0.2.1 rfl ?_
  refine zf_ld (pc' := 50) (v := .inl v2) dX5_restOthers_49 rfl (fun _ _ _ => rfl) rfl rfl rfl ?_
  refine zf_ic (v := 0) (pc' := 51) dX5_restOthers_50 rfl rfl ?_
  refine zf_ld (pc' := 52) (v := .inr (.inr (1, w0))) dX5_restOthers_51 rfl (fun _ _ _ => rfl) rfl rfl rfl ?_
  refine zf_gfr (pc' := 55) (b := r0) dX5_restOthers_52 rfl rfl hp0.1 hp0.2.1 rfl ?_
  refine zf_ld (pc' := 56) (v := .inl v2) dX5_restOthers_55 rfl (fun _ _ _ => rfl) rfl rfl rfl ?_
  refine zf_ial (pc' := 57) dX5_restOthers_56 rfl hp0.2.2.2.1 hp0.2.2.2.2 h.1 rfl ?_
  replace h := h.2
  refine zf_ld (pc' := 58) (v := .inl (u1 - u0)) dX5_restOthers_57 rfl (fun _ _ _ => rfl) rfl rfl rfl ?_
  refine zf_in (pc' := 59) (S' := [.inl ((m.1 r0 (Int32.toInt v2).toNat) - (u1 - u0)), .inl 0, .inl v2, .inr (.inr (1, r0))]) dX5_restOthers_58 rfl (fun _ _ _ => rfl) ?_
  refine zf_max (pc' := 62) dX5_restOthers_59 rfl rfl rfl ?_
  refine zf_ias (pc' := 63) dX5_restOthers_62 rfl hp0.2.2.2.1 hp0.2.2.2.2 h.1 rfl (fun m3 e4 => ?_)
  replace h := h.2 m3 e4
  refine zf_ii (y := (v2 + 1)) (L2 := [some (.inr (.inr (1, w0))), some (.inl v1), some (.inl (v2 + 1)), some (.inl (u1 - u0))]) (pc' := 66) dX5_restOthers_63 rfl rfl rfl rfl rfl ?_
  refine zf_goto (tgt := 2) dX5_restOthers_66 rfl ?_
  exact zf_lo (hF2 _ _ h) ⟨rfl, rfl, rfl, trivial⟩
def wq_59_2 (w0 : Nat) (y0 : Nat) (r0 : Nat) (v1 : Int32) (Q : zf_Me → Prop) : Nat → Int32 → zf_Me → Prop
  | 0, _, _ => False
  | n + 1, v2, m => ((v2.toInt ≥ ((m.1 y0 5)).toInt → Q m) ∧ (v2.toInt < ((m.1 y0 5)).toInt → ((v2.toInt = v1.toInt → wq_59_2 w0 y0 r0 v1 Q n (v2 + 1) m) ∧ (¬ v2.toInt = v1.toInt → ((0 ≤ (Int32.toInt v2) ∧ (Int32.toInt v2) < (6 : Int)) ∧ wp_118 (m.1 (y0 + 3) (Int32.toInt v2).toNat) m (fun x1 m2 => ((¬ ((m2.1 w0 2)).toInt = v2.toInt → wq_59_43 w0 y0 r0 v1 (wq_59_2 w0 y0 r0 v1 Q n) v2 0 x1 m2 Q) ∧ (((m2.1 w0 2)).toInt = v2.toInt → wq_59_43 w0 y0 r0 v1 (wq_59_2 w0 y0 r0 v1 Q n) v2 1 x1 m2 Q))))))))
theorem zq_59_2 {d : Nat} (hd : 1 ≤ d) {w0 : Nat} {y0 : Nat} {r0 : Nat} (hp0 : zf_walk w0 y0 r0) {v1 : Int32} {Q : zf_Me → Prop} : ∀ (n : Nat) (v2 : Int32) (m : zf_Me), wq_59_2 w0 y0 r0 v1 Q n v2 m → zf_W none 0 0 d zt_59 2 [some (.inr (.inr (1, w0))), some (.inl v1), some (.inl v2), none] [] m (zf_O Q) := by
  obtain ⟨e, rfl⟩ : ∃ z, d = z + 1 := ⟨d - 1, by omega⟩
  intro n
  induction n with
  | zero =>
    intro v2 m h
    exact h.elim
  | succ n ih =>
    intro v2 m h
    unfold wq_59_2 at h
    refine zf_ld (pc' := 3) (v := .inl v2) dX5_restOthers_2 rfl (fun _ _ _ => rfl) rfl rfl rfl ?_
    refine zf_ld (pc' := 4) (v := .inr (.inr (1, w0))) dX5_restOthers_3 rfl (fun _ _ _ => rfl) rfl rfl rfl ?_
    refine zf_gfr (pc' := 7) (b := y0) dX5_restOthers_4 rfl rfl hp0.1 hp0.2.1 rfl ?_
    refine zf_gfi (pc' := 10) dX5_restOthers_7 rfl rfl hp0.2.2.1.1 hp0.2.2.1.2.1 rfl ?_
    refine zf_icmp_ge (tgt := 69) (pc' := 13) dX5_restOthers_10 rfl rfl (fun g => ?_) (fun g => ?_)
    · replace h := h.1 g
      exact zf_rv dX5_restOthers_69 rfl h
    · replace h := h.2 g
      refine zf_ld (pc' := 14) (v := .inl v2) dX5_restOthers_13 rfl (fun _ _ _ => rfl) rfl rfl rfl ?_
      refine zf_ld (pc' := 15) (v := .inl v1) dX5_restOthers_14 rfl (fun _ _ _ => rfl) rfl rfl rfl ?_
      refine zf_icmp_eq (tgt := 63) (pc' := 18) dX5_restOthers_15 rfl rfl (fun g => ?_) (fun g => ?_)
      · replace h := h.1 g
        refine zf_ii (y := (v2 + 1)) (L2 := [some (.inr (.inr (1, w0))), some (.inl v1), some (.inl (v2 + 1)), none]) (pc' := 66) dX5_restOthers_63 rfl rfl rfl rfl rfl ?_
        refine zf_goto (tgt := 2) dX5_restOthers_66 rfl ?_
        exact zf_lo (ih _ _ h) ⟨rfl, rfl, rfl, trivial⟩
      · replace h := h.2 g
        refine zf_ld (pc' := 19) (v := .inr (.inr (1, w0))) dX5_restOthers_18 rfl (fun _ _ _ => rfl) rfl rfl rfl ?_
        refine zf_gfr (pc' := 22) (b := y0) dX5_restOthers_19 rfl rfl hp0.1 hp0.2.1 rfl ?_
        refine zf_gfr (pc' := 25) (b := (y0 + 3)) dX5_restOthers_22 rfl rfl hp0.2.2.1.1 hp0.2.2.1.2.1 rfl ?_
        refine zf_ld (pc' := 26) (v := .inl v2) dX5_restOthers_25 rfl (fun _ _ _ => rfl) rfl rfl rfl ?_
        refine zf_ial (pc' := 27) dX5_restOthers_26 rfl hp0.2.2.1.2.2.2.2.1.1 hp0.2.2.1.2.2.2.2.1.2 h.1 rfl ?_
        replace h := h.2
        refine zf_is (k := 118) (pc' := 30) (r := []) dX5_restOthers_27 rfl rfl rfl rfl rfl (zr_118 (by omega) h) (zf_kI (fun x1 m2 h => ?_))
        refine zf_ld (pc' := 31) (v := .inr (.inr (1, w0))) dX5_restOthers_30 rfl (fun _ _ _ => rfl) rfl rfl rfl ?_
        refine zf_gfi (pc' := 34) dX5_restOthers_31 rfl rfl hp0.1 hp0.2.1 rfl ?_
        refine zf_ld (pc' := 35) (v := .inl v2) dX5_restOthers_34 rfl (fun _ _ _ => rfl) rfl rfl rfl ?_
        refine zf_icmp_ne (tgt := 42) (pc' := 38) dX5_restOthers_35 rfl rfl (fun g => ?_) (fun g => ?_)
        · replace h := h.1 g
          refine zf_ic (v := 0) (pc' := 43) dX5_restOthers_42 rfl rfl ?_
          exact zf_lo (zq_59_43 (by omega) hp0 ih h) ⟨rfl, rfl, rfl, trivial⟩
        · replace h := h.2 g
          refine zf_ic (v := 1) (pc' := 39) dX5_restOthers_38 rfl rfl ?_
          refine zf_goto (tgt := 43) dX5_restOthers_39 rfl ?_
          exact zf_lo (zq_59_43 (by omega) hp0 ih h) ⟨rfl, rfl, rfl, trivial⟩
def wp_59 (w0 : Nat) (y0 : Nat) (r0 : Nat) (v1 : Int32) (m : zf_Me) (Q : zf_Me → Prop) : Prop := (∃ n2, wq_59_2 w0 y0 r0 v1 Q n2 0 m)
theorem zr_59 {d : Nat} (hd : 1 ≤ d) {w0 : Nat} {y0 : Nat} {r0 : Nat} (hp0 : zf_walk w0 y0 r0) {v1 : Int32} {Q : zf_Me → Prop} {m : zf_Me} (h : wp_59 w0 y0 r0 v1 m Q) : zf_M d 59 [.inr (.inr (1, w0)), .inl v1] m (zf_O Q) := by
  unfold wp_59 at h
  refine zf_M_of (Nat.le_of_ble_eq_true rfl) zm_59 (L := [some (.inr (.inr (1, w0))), some (.inl v1), none, none]) rfl ?_
  refine zf_ic (v := 0) (pc' := 1) dX5_restOthers_0 rfl rfl ?_
  refine zf_st (pc' := 2) (L2 := [some (.inr (.inr (1, w0))), some (.inl v1), some (.inl 0), none]) dX5_restOthers_1 rfl (fun _ _ _ => rfl) rfl rfl rfl rfl rfl rfl ?_
  obtain ⟨n2, h⟩ := h
  exact zf_lo (zq_59_2 (by omega) hp0 n2 _ _ h) ⟨rfl, rfl, rfl, trivial⟩
