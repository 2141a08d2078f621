/-! part 31: methods 79..: laid by wip/flat/dec.py -/
def zt_79 : zx_MT := (7, yX7_ask, cX7_ask, 4, (some FieldType.int), 2, 0)
theorem zm_79 : zx_m 79 = zt_79 := rfl
theorem dX7_ask_r0 : zdcP cX7_ask 0 [(.iload_n 1, 1), (.ifCond .lt 26, 3), (.iload_n 1, 1), (.iconst 5, 1), (.if_icmp .ge 21, 3), (.iload_n 2, 1), (.getstatic 177, 3), (.iload_n 1, 1), (.iaload, 1), (.if_icmp .lt 12, 3), (.iload_n 2, 1), (.getstatic 180, 3), (.iload_n 1, 1), (.iaload, 1), (.if_icmp .le 10, 3), (.aload_n 0, 1)] := zdcA_ok (by decide +kernel)
theorem dX7_ask_0 : decode cX7_ask 0 = .ok (.iload_n 1, 1) := dX7_ask_r0.1
theorem dX7_ask_1 : decode cX7_ask 1 = .ok (.ifCond .lt 26, 3) := dX7_ask_r0.2.1
theorem dX7_ask_4 : decode cX7_ask 4 = .ok (.iload_n 1, 1) := dX7_ask_r0.2.2.1
theorem dX7_ask_5 : decode cX7_ask 5 = .ok (.iconst 5, 1) := dX7_ask_r0.2.2.2.1
theorem dX7_ask_6 : decode cX7_ask 6 = .ok (.if_icmp .ge 21, 3) := dX7_ask_r0.2.2.2.2.1
theorem dX7_ask_9 : decode cX7_ask 9 = .ok (.iload_n 2, 1) := dX7_ask_r0.2.2.2.2.2.1
theorem dX7_ask_10 : decode cX7_ask 10 = .ok (.getstatic 177, 3) := dX7_ask_r0.2.2.2.2.2.2.1
theorem dX7_ask_13 : decode cX7_ask 13 = .ok (.iload_n 1, 1) := dX7_ask_r0.2.2.2.2.2.2.2.1
theorem dX7_ask_14 : decode cX7_ask 14 = .ok (.iaload, 1) := dX7_ask_r0.2.2.2.2.2.2.2.2.1
theorem dX7_ask_15 : decode cX7_ask 15 = .ok (.if_icmp .lt 12, 3) := dX7_ask_r0.2.2.2.2.2.2.2.2.2.1
theorem dX7_ask_18 : decode cX7_ask 18 = .ok (.iload_n 2, 1) := dX7_ask_r0.2.2.2.2.2.2.2.2.2.2.1
theorem dX7_ask_19 : decode cX7_ask 19 = .ok (.getstatic 180, 3) := dX7_ask_r0.2.2.2.2.2.2.2.2.2.2.2.1
theorem dX7_ask_22 : decode cX7_ask 22 = .ok (.iload_n 1, 1) := dX7_ask_r0.2.2.2.2.2.2.2.2.2.2.2.2.1
theorem dX7_ask_23 : decode cX7_ask 23 = .ok (.iaload, 1) := dX7_ask_r0.2.2.2.2.2.2.2.2.2.2.2.2.2.1
theorem dX7_ask_24 : decode cX7_ask 24 = .ok (.if_icmp .le 10, 3) := dX7_ask_r0.2.2.2.2.2.2.2.2.2.2.2.2.2.2.1
theorem dX7_ask_27 : decode cX7_ask 27 = .ok (.aload_n 0, 1) := dX7_ask_r0.2.2.2.2.2.2.2.2.2.2.2.2.2.2.2.1
theorem dX7_ask_r28 : zdcP cX7_ask 28 [(.bipush 6, 2), (.invokevirtual 82, 3), (.ireturn, 1), (.aload_n 0, 1), (.getfield 23, 3), (.iload_n 1, 1), (.invokevirtual 183, 3), (.istore_n 3, 1), (.aload_n 0, 1), (.getfield 23, 3), (.iload_n 1, 1), (.iload_n 2, 1), (.invokevirtual 186, 3), (.iload_n 3, 1), (.ireturn, 1)] := zdcA_ok (by decide +kernel)
theorem dX7_ask_28 : decode cX7_ask 28 = .ok (.bipush 6, 2) := dX7_ask_r28.1
theorem dX7_ask_30 : decode cX7_ask 30 = .ok (.invokevirtual 82, 3) := dX7_ask_r28.2.1
theorem dX7_ask_33 : decode cX7_ask 33 = .ok (.ireturn, 1) := dX7_ask_r28.2.2.1
theorem dX7_ask_34 : decode cX7_ask 34 = .ok (.aload_n 0, 1) := dX7_ask_r28.2.2.2.1
theorem dX7_ask_35 : decode cX7_ask 35 = .ok (.getfield 23, 3) := dX7_ask_r28.2.2.2.2.1
theorem dX7_ask_38 : decode cX7_ask 38 = .ok (.iload_n 1, 1) := dX7_ask_r28.2.2.2.2.2.1
theorem dX7_ask_39 : decode cX7_ask 39 = .ok (.invokevirtual 183, 3) := dX7_ask_r28.2.2.2.2.2.2.1
theorem dX7_ask_42 : decode cX7_ask 42 = .ok (.istore_n 3, 1) := dX7_ask_r28.2.2.2.2.2.2.2.1
theorem dX7_ask_43 : decode cX7_ask 43 = .ok (.aload_n 0, 1) := dX7_ask_r28.2.2.2.2.2.2.2.2.1
theorem dX7_ask_44 : decode cX7_ask 44 = .ok (.getfield 23, 3) := dX7_ask_r28.2.2.2.2.2.2.2.2.2.1
theorem dX7_ask_47 : decode cX7_ask 47 = .ok (.iload_n 1, 1) := dX7_ask_r28.2.2.2.2.2.2.2.2.2.2.1
theorem dX7_ask_48 : decode cX7_ask 48 = .ok (.iload_n 2, 1) := dX7_ask_r28.2.2.2.2.2.2.2.2.2.2.2.1
theorem dX7_ask_49 : decode cX7_ask 49 = .ok (.invokevirtual 186, 3) := dX7_ask_r28.2.2.2.2.2.2.2.2.2.2.2.2.1
theorem dX7_ask_52 : decode cX7_ask 52 = .ok (.iload_n 3, 1) := dX7_ask_r28.2.2.2.2.2.2.2.2.2.2.2.2.2.1
theorem dX7_ask_53 : decode cX7_ask 53 = .ok (.ireturn, 1) := dX7_ask_r28.2.2.2.2.2.2.2.2.2.2.2.2.2.2.1
def wp_79 (v1 : Int32) (v2 : Int32) (m : zf_Me) (Q : Int32 → zf_Me → Prop) : Prop := ((v1.toInt < 0 → wp_109 6 m (fun x1 m2 => Q x1 m2)) ∧ (v1.toInt ≥ 0 → ((v1.toInt ≥ 5 → wp_109 6 m (fun x3 m4 => Q x3 m4)) ∧ (v1.toInt < 5 → ((0 ≤ (v1).toInt ∧ (v1).toInt < 5) ∧ ((v2.toInt < (((zx_sa.getD 2 []).getD (Int32.toInt v1).toNat 0)).toInt → wp_109 6 m (fun x5 m6 => Q x5 m6)) ∧ (v2.toInt ≥ (((zx_sa.getD 2 []).getD (Int32.toInt v1).toNat 0)).toInt → ((0 ≤ (v1).toInt ∧ (v1).toInt < 5) ∧ ((v2.toInt ≤ (((zx_sa.getD 3 []).getD (Int32.toInt v1).toNat 0)).toInt → wp_45 2 3 8 v1 m (fun x7 m8 => wp_46 2 3 8 v1 v2 m8 (fun m10 => Q x7 m10))) ∧ (v2.toInt > (((zx_sa.getD 3 []).getD (Int32.toInt v1).toNat 0)).toInt → wp_109 6 m (fun x11 m12 => Q x11 m12)))))))))))
theorem zr_79 {d : Nat} (hd : 1 ≤ d) {v1 : Int32} {v2 : Int32} {Q : Int32 → zf_Me → Prop} {m : zf_Me} (h : wp_79 v1 v2 m Q) : zf_M d 79 [.inr (.inr (1, 0)), .inl v1, .inl v2] m (zf_I Q) := by
  obtain ⟨e, rfl⟩ : ∃ z, d = z + 1 := ⟨d - 1, by omega⟩
  unfold wp_79 at h
  refine zf_M_of (Nat.le_of_ble_eq_true rfl) zm_79 (L := [some (.inr (.inr (1, 0))), some (.inl v1), some (.inl v2), none]) rfl ?_
  refine zf_ld (pc' := 1) (v := .inl v1) dX7_ask_0 rfl (fun _ _ _ => rfl) rfl rfl rfl ?_
  refine zf_if_lt (tgt := 27) (pc' := 4) dX7_ask_1 rfl rfl (fun g => ?_) (fun g => ?_)
  · replace h := h.1 g
    refine zf_ld (pc' := 28) (v := .inr (.inr (1, 0))) dX7_ask_27 rfl (fun _ _ _ => rfl) rfl rfl rfl ?_
    refine zf_bi (v := 6) (pc' := 30) dX7_ask_28 rfl rfl ?_
    refine zf_iv (k := 109) (pc' := 33) (r := []) dX7_ask_30 rfl rfl rfl rfl (by decide) rfl rfl rfl (zr_109 (by omega) h) (zf_kI (fun x1 m2 h => ?_))
    exact zf_ri dX7_ask_33 rfl h
  · replace h := h.2 g
    refine zf_ld (pc' := 5) (v := .inl v1) dX7_ask_4 rfl (fun _ _ _ => rfl) rfl rfl rfl ?_
    refine zf_ic (v := 5) (pc' := 6) dX7_ask_5 rfl rfl ?_
    refine zf_icmp_ge (tgt := 27) (pc' := 9) dX7_ask_6 rfl rfl (fun g => ?_) (fun g => ?_)
    · replace h := h.1 g
      refine zf_ld (pc' := 28) (v := .inr (.inr (1, 0))) dX7_ask_27 rfl (fun _ _ _ => rfl) rfl rfl rfl ?_
      refine zf_bi (v := 6) (pc' := 30) dX7_ask_28 rfl rfl ?_
      refine zf_iv (k := 109) (pc' := 33) (r := []) dX7_ask_30 rfl rfl rfl rfl (by decide) rfl rfl rfl (zr_109 (by omega) h) (zf_kI (fun x3 m4 h => ?_))
      exact zf_ri dX7_ask_33 rfl h
    · replace h := h.2 g
      refine zf_ld (pc' := 10) (v := .inl v2) dX7_ask_9 rfl (fun _ _ _ => rfl) rfl rfl rfl ?_
      refine zf_gs (g := 2) (pc' := 13) dX7_ask_10 rfl rfl rfl ?_
      refine zf_ld (pc' := 14) (v := .inl v1) dX7_ask_13 rfl (fun _ _ _ => rfl) rfl rfl rfl ?_
      refine zf_ials (pc' := 15) dX7_ask_14 rfl (by decide) (n := 5) rfl h.1 ?_
      replace h := h.2
      refine zf_icmp_lt (tgt := 27) (pc' := 18) dX7_ask_15 rfl rfl (fun g => ?_) (fun g => ?_)
      · replace h := h.1 g
        refine zf_ld (pc' := 28) (v := .inr (.inr (1, 0))) dX7_ask_27 rfl (fun _ _ _ => rfl) rfl rfl rfl ?_
        refine zf_bi (v := 6) (pc' := 30) dX7_ask_28 rfl rfl ?_
        refine zf_iv (k := 109) (pc' := 33) (r := []) dX7_ask_30 rfl rfl rfl rfl (by decide) rfl rfl rfl (zr_109 (by omega) h) (zf_kI (fun x5 m6 h => ?_))
        exact zf_ri dX7_ask_33 rfl h
      · replace h := h.2 g
        refine zf_ld (pc' := 19) (v := .inl v2) dX7_ask_18 rfl (fun _ _ _ => rfl) rfl rfl rfl ?_
        refine zf_gs (g := 3) (pc' := 22) dX7_ask_19 rfl rfl rfl ?_
        refine zf_ld (pc' := 23) (v := .inl v1) dX7_ask_22 rfl (fun _ _ _ => rfl) rfl rfl rfl ?_
        refine zf_ials (pc' := 24) dX7_ask_23 rfl (by decide) (n := 5) rfl h.1 ?_
        replace h := h.2
        refine zf_icmp_le (tgt := 34) (pc' := 27) dX7_ask_24 rfl rfl (fun g => ?_) (fun g => ?_)
        · replace h := h.1 g
          refine zf_ld (pc' := 35) (v := .inr (.inr (1, 0))) dX7_ask_34 rfl (fun _ _ _ => rfl) rfl rfl rfl ?_
          refine zf_gfr (pc' := 38) (b := 2) dX7_ask_35 rfl rfl (by decide) rfl rfl ?_
          refine zf_ld (pc' := 39) (v := .inl v1) dX7_ask_38 rfl (fun _ _ _ => rfl) rfl rfl rfl ?_
          refine zf_iv (k := 45) (pc' := 42) (r := []) dX7_ask_39 rfl rfl rfl rfl zf_walk2.1 zf_walk2.2.1 rfl rfl (zr_45 (by omega) zf_walk2 h) (zf_kI (fun x7 m8 h => ?_))
          refine zf_st (pc' := 43) (L2 := [some (.inr (.inr (1, 0))), some (.inl v1), some (.inl v2), some (.inl x7)]) dX7_ask_42 rfl (fun _ _ _ => rfl) rfl rfl rfl rfl rfl rfl ?_
          refine zf_ld (pc' := 44) (v := .inr (.inr (1, 0))) dX7_ask_43 rfl (fun _ _ _ => rfl) rfl rfl rfl ?_
          refine zf_gfr (pc' := 47) (b := 2) dX7_ask_44 rfl rfl (by decide) rfl rfl ?_
          refine zf_ld (pc' := 48) (v := .inl v1) dX7_ask_47 rfl (fun _ _ _ => rfl) rfl rfl rfl ?_
          refine zf_ld (pc' := 49) (v := .inl v2) dX7_ask_48 rfl (fun _ _ _ => rfl) rfl rfl rfl ?_
          refine zf_iv (k := 46) (pc' := 52) (r := []) dX7_ask_49 rfl rfl rfl rfl zf_walk2.1 zf_walk2.2.1 rfl rfl (zr_46 (by omega) zf_walk2 h) (zf_kO (fun m10 h => ?_))
          refine zf_ld (pc' := 53) (v := .inl x7) dX7_ask_52 rfl (fun _ _ _ => rfl) rfl rfl rfl ?_
          exact zf_ri dX7_ask_53 rfl h
        · replace h := h.2 g
          refine zf_ld (pc' := 28) (v := .inr (.inr (1, 0))) dX7_ask_27 rfl (fun _ _ _ => rfl) rfl rfl rfl ?_
          refine zf_bi (v := 6) (pc' := 30) dX7_ask_28 rfl rfl ?_
          refine zf_iv (k := 109) (pc' := 33) (r := []) dX7_ask_30 rfl rfl rfl rfl (by decide) rfl rfl rfl (zr_109 (by omega) h) (zf_kI (fun x11 m12 h => ?_))
          exact zf_ri dX7_ask_33 rfl h
def zt_80 : zx_MT := (7, yX7_tire, cX7_tire, 4, (some FieldType.int), 2, 0)
theorem zm_80 : zx_m 80 = zt_80 := rfl
theorem dX7_tire_r0 : zdcP cX7_tire 0 [(.aload_n 0, 1), (.getfield 23, 3), (.getfield 30, 3), (.iload_n 1, 1), (.invokevirtual 118, 3), (.ifCond .ne 9, 3), (.aload_n 0, 1), (.iconst 1, 1), (.invokevirtual 82, 3), (.ireturn, 1), (.iload_n 2, 1), (.ifCond .lt 9, 3), (.iload_n 2, 1), (.bipush 99, 2), (.if_icmp .le 10, 3), (.aload_n 0, 1)] := zdcA_ok (by decide +kernel)
theorem dX7_tire_0 : decode cX7_tire 0 = .ok (.aload_n 0, 1) := dX7_tire_r0.1
theorem dX7_tire_1 : decode cX7_tire 1 = .ok (.getfield 23, 3) := dX7_tire_r0.2.1
theorem dX7_tire_4 : decode cX7_tire 4 = .ok (.getfield 30, 3) := dX7_tire_r0.2.2.1
theorem dX7_tire_7 : decode cX7_tire 7 = .ok (.iload_n 1, 1) := dX7_tire_r0.2.2.2.1
theorem dX7_tire_8 : decode cX7_tire 8 = .ok (.invokevirtual 118, 3) := dX7_tire_r0.2.2.2.2.1
theorem dX7_tire_11 : decode cX7_tire 11 = .ok (.ifCond .ne 9, 3) := dX7_tire_r0.2.2.2.2.2.1
theorem dX7_tire_14 : decode cX7_tire 14 = .ok (.aload_n 0, 1) := dX7_tire_r0.2.2.2.2.2.2.1
theorem dX7_tire_15 : decode cX7_tire 15 = .ok (.iconst 1, 1) := dX7_tire_r0.2.2.2.2.2.2.2.1
theorem dX7_tire_16 : decode cX7_tire 16 = .ok (.invokevirtual 82, 3) := dX7_tire_r0.2.2.2.2.2.2.2.2.1
theorem dX7_tire_19 : decode cX7_tire 19 = .ok (.ireturn, 1) := dX7_tire_r0.2.2.2.2.2.2.2.2.2.1
theorem dX7_tire_20 : decode cX7_tire 20 = .ok (.iload_n 2, 1) := dX7_tire_r0.2.2.2.2.2.2.2.2.2.2.1
theorem dX7_tire_21 : decode cX7_tire 21 = .ok (.ifCond .lt 9, 3) := dX7_tire_r0.2.2.2.2.2.2.2.2.2.2.2.1
theorem dX7_tire_24 : decode cX7_tire 24 = .ok (.iload_n 2, 1) := dX7_tire_r0.2.2.2.2.2.2.2.2.2.2.2.2.1
theorem dX7_tire_25 : decode cX7_tire 25 = .ok (.bipush 99, 2) := dX7_tire_r0.2.2.2.2.2.2.2.2.2.2.2.2.2.1
theorem dX7_tire_27 : decode cX7_tire 27 = .ok (.if_icmp .le 10, 3) := dX7_tire_r0.2.2.2.2.2.2.2.2.2.2.2.2.2.2.1
theorem dX7_tire_30 : decode cX7_tire 30 = .ok (.aload_n 0, 1) := dX7_tire_r0.2.2.2.2.2.2.2.2.2.2.2.2.2.2.2.1
theorem dX7_tire_r31 : zdcP cX7_tire 31 [(.bipush 6, 2), (.invokevirtual 82, 3), (.ireturn, 1), (.aload_n 0, 1), (.getfield 23, 3), (.getfield 143, 3), (.iload_n 1, 1), (.iaload, 1), (.istore_n 3, 1), (.aload_n 0, 1), (.getfield 23, 3), (.getfield 143, 3), (.iload_n 1, 1), (.iload_n 2, 1), (.iastore, 1), (.iload_n 3, 1)] := zdcA_ok (by decide +kernel)
theorem dX7_tire_31 : decode cX7_tire 31 = .ok (.bipush 6, 2) := dX7_tire_r31.1
theorem dX7_tire_33 : decode cX7_tire 33 = .ok (.invokevirtual 82, 3) := dX7_tire_r31.2.1
theorem dX7_tire_36 : decode cX7_tire 36 = .ok (.ireturn, 1) := dX7_tire_r31.2.2.1
theorem dX7_tire_37 : decode cX7_tire 37 = .ok (.aload_n 0, 1) := dX7_tire_r31.2.2.2.1
theorem dX7_tire_38 : decode cX7_tire 38 = .ok (.getfield 23, 3) := dX7_tire_r31.2.2.2.2.1
theorem dX7_tire_41 : decode cX7_tire 41 = .ok (.getfield 143, 3) := dX7_tire_r31.2.2.2.2.2.1
theorem dX7_tire_44 : decode cX7_tire 44 = .ok (.iload_n 1, 1) := dX7_tire_r31.2.2.2.2.2.2.1
theorem dX7_tire_45 : decode cX7_tire 45 = .ok (.iaload, 1) := dX7_tire_r31.2.2.2.2.2.2.2.1
theorem dX7_tire_46 : decode cX7_tire 46 = .ok (.istore_n 3, 1) := dX7_tire_r31.2.2.2.2.2.2.2.2.1
theorem dX7_tire_47 : decode cX7_tire 47 = .ok (.aload_n 0, 1) := dX7_tire_r31.2.2.2.2.2.2.2.2.2.1
theorem dX7_tire_48 : decode cX7_tire 48 = .ok (.getfield 23, 3) := dX7_tire_r31.2.2.2.2.2.2.2.2.2.2.1
theorem dX7_tire_51 : decode cX7_tire 51 = .ok (.getfield 143, 3) := dX7_tire_r31.2.2.2.2.2.2.2.2.2.2.2.1
theorem dX7_tire_54 : decode cX7_tire 54 = .ok (.iload_n 1, 1) := dX7_tire_r31.2.2.2.2.2.2.2.2.2.2.2.2.1
theorem dX7_tire_55 : decode cX7_tire 55 = .ok (.iload_n 2, 1) := dX7_tire_r31.2.2.2.2.2.2.2.2.2.2.2.2.2.1
theorem dX7_tire_56 : decode cX7_tire 56 = .ok (.iastore, 1) := dX7_tire_r31.2.2.2.2.2.2.2.2.2.2.2.2.2.2.1
theorem dX7_tire_57 : decode cX7_tire 57 = .ok (.iload_n 3, 1) := dX7_tire_r31.2.2.2.2.2.2.2.2.2.2.2.2.2.2.2.1
theorem dX7_tire_58 : decode cX7_tire 58 = .ok (.ireturn, 1) := zdc_ok (by decide +kernel)
def wp_80 (v1 : Int32) (v2 : Int32) (m : zf_Me) (Q : Int32 → zf_Me → Prop) : Prop := wp_65 3 v1 m (fun b1 m2 => ((b1 = true → ((v2.toInt < 0 → wp_109 6 m2 (fun x3 m4 => Q x3 m4)) ∧ (v2.toInt ≥ 0 → ((v2.toInt ≤ 99 → ((0 ≤ (Int32.toInt v1) ∧ (Int32.toInt v1) < (6 : Int)) ∧ ((0 ≤ (Int32.toInt v1) ∧ (Int32.toInt v1) < (6 : Int)) ∧ ∀ m5, m5 = zf_u m2 8 (Int32.toInt v1).toNat v2 → Q (m2.1 8 (Int32.toInt v1).toNat) m5))) ∧ (v2.toInt > 99 → wp_109 6 m2 (fun x7 m8 => Q x7 m8)))))) ∧ (b1 = false → wp_109 1 m2 (fun x9 m10 => Q x9 m10))))
theorem zr_80 {d : Nat} (hd : 1 ≤ d) {v1 : Int32} {v2 : Int32} {Q : Int32 → zf_Me → Prop} {m : zf_Me} (h : wp_80 v1 v2 m Q) : zf_M d 80 [.inr (.inr (1, 0)), .inl v1, .inl v2] m (zf_I Q) := by
  obtain ⟨e, rfl⟩ : ∃ z, d = z + 1 := ⟨d - 1, by omega⟩
  unfold wp_80 at h
  refine zf_M_of (Nat.le_of_ble_eq_true rfl) zm_80 (L := [some (.inr (.inr (1, 0))), some (.inl v1), some (.inl v2), none]) rfl ?_
  refine zf_ld (pc' := 1) (v := .inr (.inr (1, 0))) dX7_tire_0 rfl (fun _ _ _ => rfl) rfl rfl rfl ?_
  refine zf_gfr (pc' := 4) (b := 2) dX7_tire_1 rfl rfl (by decide) rfl rfl ?_
  refine zf_gfr (pc' := 7) (b := 3) dX7_tire_4 rfl rfl zf_walk2.1 zf_walk2.2.1 rfl ?_
  refine zf_ld (pc' := 8) (v := .inl v1) dX7_tire_7 rfl (fun _ _ _ => rfl) rfl rfl rfl ?_
  refine zf_iv (k := 65) (pc' := 11) (r := []) dX7_tire_8 rfl rfl rfl rfl zf_walk2.2.2.1.1 zf_walk2.2.2.1.2.1 rfl rfl (zr_65 (by omega) zf_walk2.2.2.1 h) (zf_kB (fun b1 m2 h => ?_))
  refine zf_ib_ne (tgt := 20) (pc' := 14) dX7_tire_11 rfl rfl (fun g => ?_) (fun g => ?_)
  · replace h := h.1 g
    refine zf_ld (pc' := 21) (v := .inl v2) dX7_tire_20 rfl (fun _ _ _ => rfl) rfl rfl rfl ?_
    refine zf_if_lt (tgt := 30) (pc' := 24) dX7_tire_21 rfl rfl (fun g => ?_) (fun g => ?_)
    · replace h := h.1 g
      refine zf_ld (pc' := 31) (v := .inr (.inr (1, 0))) dX7_tire_30 rfl (fun _ _ _ => rfl) rfl rfl rfl ?_
      refine zf_bi (v := 6) (pc' := 33) dX7_tire_31 rfl rfl ?_
      refine zf_iv (k := 109) (pc' := 36) (r := []) dX7_tire_33 rfl rfl rfl rfl (by decide) rfl rfl rfl (zr_109 (by omega) h) (zf_kI (fun x3 m4 h => ?_))
      exact zf_ri dX7_tire_36 rfl h
    · replace h := h.2 g
      refine zf_ld (pc' := 25) (v := .inl v2) dX7_tire_24 rfl (fun _ _ _ => rfl) rfl rfl rfl ?_
      refine zf_bi (v := 99) (pc' := 27) dX7_tire_25 rfl rfl ?_
      refine zf_icmp_le (tgt := 37) (pc' := 30) dX7_tire_27 rfl rfl (fun g => ?_) (fun g => ?_)
      · replace h := h.1 g
        refine zf_ld (pc' := 38) (v := .inr (.inr (1, 0))) dX7_tire_37 rfl (fun _ _ _ => rfl) rfl rfl rfl ?_
        refine zf_gfr (pc' := 41) (b := 2) dX7_tire_38 rfl rfl (by decide) rfl rfl ?_
        refine zf_gfr (pc' := 44) (b := 8) dX7_tire_41 rfl rfl zf_walk2.1 zf_walk2.2.1 rfl ?_
        refine zf_ld (pc' := 45) (v := .inl v1) dX7_tire_44 rfl (fun _ _ _ => rfl) rfl rfl rfl ?_
        refine zf_ial (pc' := 46) dX7_tire_45 rfl zf_walk2.2.2.2.1 zf_walk2.2.2.2.2 h.1 rfl ?_
        replace h := h.2
        refine zf_st (pc' := 47) (L2 := [some (.inr (.inr (1, 0))), some (.inl v1), some (.inl v2), some (.inl (m2.1 8 (Int32.toInt v1).toNat))]) dX7_tire_46 rfl (fun _ _ _ => rfl) rfl rfl rfl rfl rfl rfl ?_
        refine zf_ld (pc' := 48) (v := .inr (.inr (1, 0))) dX7_tire_47 rfl (fun _ _ _ => rfl) rfl rfl rfl ?_
        refine zf_gfr (pc' := 51) (b := 2) dX7_tire_48 rfl rfl (by decide) rfl rfl ?_
        refine zf_gfr (pc' := 54) (b := 8) dX7_tire_51 rfl rfl zf_walk2.1 zf_walk2.2.1 rfl ?_
        refine zf_ld (pc' := 55) (v := .inl v1) dX7_tire_54 rfl (fun _ _ _ => rfl) rfl rfl rfl ?_
        refine zf_ld (pc' := 56) (v := .inl v2) dX7_tire_55 rfl (fun _ _ _ => rfl) rfl rfl rfl ?_
        refine zf_ias (pc' := 57) dX7_tire_56 rfl zf_walk2.2.2.2.1 zf_walk2.2.2.2.2 h.1 rfl (fun m5 e6 => ?_)
        replace h := h.2 m5 e6
        refine zf_ld (pc' := 58) (v := .inl (m2.1 8 (Int32.toInt v1).toNat)) dX7_tire_57 rfl (fun _ _ _ => rfl) rfl rfl rfl ?_
        exact zf_ri dX7_tire_58 rfl h
      · replace h := h.2 g
        refine zf_ld (pc' := 31) (v := .inr (.inr (1, 0))) dX7_tire_30 rfl (fun _ _ _ => rfl) rfl rfl rfl ?_
        refine zf_bi (v := 6) (pc' := 33) dX7_tire_31 rfl rfl ?_
        refine zf_iv (k := 109) (pc' := 36) (r := []) dX7_tire_33 rfl rfl rfl rfl (by decide) rfl rfl rfl (zr_109 (by omega) h) (zf_kI (fun x7 m8 h => ?_))
        exact zf_ri dX7_tire_36 rfl h
  · replace h := h.2 g
    refine zf_ld (pc' := 15) (v := .inr (.inr (1, 0))) dX7_tire_14 rfl (fun _ _ _ => rfl) rfl rfl rfl ?_
    refine zf_ic (v := 1) (pc' := 16) dX7_tire_15 rfl rfl ?_
    refine zf_iv (k := 109) (pc' := 19) (r := []) dX7_tire_16 rfl rfl rfl rfl (by decide) rfl rfl rfl (zr_109 (by omega) h) (zf_kI (fun x9 m10 h => ?_))
    exact zf_ri dX7_tire_19 rfl h
def zt_81 : zx_MT := (7, yX7_bag, cX7_bag, 3, (some FieldType.int), 1, 0)
theorem zm_81 : zx_m 81 = zt_81 := rfl
theorem dX7_bag_r0 : zdcP cX7_bag 0 [(.iload_n 1, 1), (.iconst (-1), 1), (.if_icmp .eq 23, 3), (.aload_n 0, 1), (.getfield 23, 3), (.getfield 30, 3), (.iload_n 1, 1), (.invokevirtual 118, 3), (.ifCond .ne 9, 3), (.aload_n 0, 1), (.iconst 1, 1), (.invokevirtual 162, 3), (.ireturn, 1), (.aload_n 0, 1), (.getfield 23, 3), (.getfield 174, 3)] := zdcA_ok (by decide +kernel)
theorem dX7_bag_0 : decode cX7_bag 0 = .ok (.iload_n 1, 1) := dX7_bag_r0.1
theorem dX7_bag_1 : decode cX7_bag 1 = .ok (.iconst (-1), 1) := dX7_bag_r0.2.1
theorem dX7_bag_2 : decode cX7_bag 2 = .ok (.if_icmp .eq 23, 3) := dX7_bag_r0.2.2.1
theorem dX7_bag_5 : decode cX7_bag 5 = .ok (.aload_n 0, 1) := dX7_bag_r0.2.2.2.1
theorem dX7_bag_6 : decode cX7_bag 6 = .ok (.getfield 23, 3) := dX7_bag_r0.2.2.2.2.1
theorem dX7_bag_9 : decode cX7_bag 9 = .ok (.getfield 30, 3) := dX7_bag_r0.2.2.2.2.2.1
theorem dX7_bag_12 : decode cX7_bag 12 = .ok (.iload_n 1, 1) := dX7_bag_r0.2.2.2.2.2.2.1
theorem dX7_bag_13 : decode cX7_bag 13 = .ok (.invokevirtual 118, 3) := dX7_bag_r0.2.2.2.2.2.2.2.1
theorem dX7_bag_16 : decode cX7_bag 16 = .ok (.ifCond .ne 9, 3) := dX7_bag_r0.2.2.2.2.2.2.2.2.1
theorem dX7_bag_19 : decode cX7_bag 19 = .ok (.aload_n 0, 1) := dX7_bag_r0.2.2.2.2.2.2.2.2.2.1
theorem dX7_bag_20 : decode cX7_bag 20 = .ok (.iconst 1, 1) := dX7_bag_r0.2.2.2.2.2.2.2.2.2.2.1
theorem dX7_bag_21 : decode cX7_bag 21 = .ok (.invokevirtual 162, 3) := dX7_bag_r0.2.2.2.2.2.2.2.2.2.2.2.1
theorem dX7_bag_24 : decode cX7_bag 24 = .ok (.ireturn, 1) := dX7_bag_r0.2.2.2.2.2.2.2.2.2.2.2.2.1
theorem dX7_bag_25 : decode cX7_bag 25 = .ok (.aload_n 0, 1) := dX7_bag_r0.2.2.2.2.2.2.2.2.2.2.2.2.2.1
theorem dX7_bag_26 : decode cX7_bag 26 = .ok (.getfield 23, 3) := dX7_bag_r0.2.2.2.2.2.2.2.2.2.2.2.2.2.2.1
theorem dX7_bag_29 : decode cX7_bag 29 = .ok (.getfield 174, 3) := dX7_bag_r0.2.2.2.2.2.2.2.2.2.2.2.2.2.2.2.1
theorem dX7_bag_r32 : zdcP cX7_bag 32 [(.istore_n 2, 1), (.aload_n 0, 1), (.getfield 23, 3), (.iload_n 1, 1), (.putfield 174, 3), (.iload_n 2, 1), (.ireturn, 1)] := zdcA_ok (by decide +kernel)
theorem dX7_bag_32 : decode cX7_bag 32 = .ok (.istore_n 2, 1) := dX7_bag_r32.1
theorem dX7_bag_33 : decode cX7_bag 33 = .ok (.aload_n 0, 1) := dX7_bag_r32.2.1
theorem dX7_bag_34 : decode cX7_bag 34 = .ok (.getfield 23, 3) := dX7_bag_r32.2.2.1
theorem dX7_bag_37 : decode cX7_bag 37 = .ok (.iload_n 1, 1) := dX7_bag_r32.2.2.2.1
theorem dX7_bag_38 : decode cX7_bag 38 = .ok (.putfield 174, 3) := dX7_bag_r32.2.2.2.2.1
theorem dX7_bag_41 : decode cX7_bag 41 = .ok (.iload_n 2, 1) := dX7_bag_r32.2.2.2.2.2.1
theorem dX7_bag_42 : decode cX7_bag 42 = .ok (.ireturn, 1) := dX7_bag_r32.2.2.2.2.2.2.1
def wq_81_25 (v1 : Int32) (m : zf_Me) (Q : Int32 → zf_Me → Prop) : Prop := (∀ m1, m1 = zf_u m 2 2 v1 → Q (m.1 2 2) m1)
theorem zq_81_25 {d : Nat} (hd : 1 ≤ d) {v1 : Int32} {Q : Int32 → zf_Me → Prop} {m : zf_Me} (h : wq_81_25 v1 m Q) : zf_W none 0 0 d zt_81 25 [some (.inr (.inr (1, 0))), some (.inl v1), none] [] m (zf_I Q) := by
  unfold wq_81_25 at h
  refine zf_ld (pc' := 26) (v := .inr (.inr (1, 0))) dX7_bag_25 rfl (fun _ _ _ => rfl) rfl rfl rfl ?_
  refine zf_gfr (pc' := 29) (b := 2) dX7_bag_26 rfl rfl (by decide) rfl rfl ?_
  refine zf_gfi (pc' := 32) dX7_bag_29 rfl rfl zf_walk2.1 zf_walk2.2.1 rfl ?_
  refine zf_st (pc' := 33) (L2 := [some (.inr (.inr (1, 0))), some (.inl v1), some (.inl (m.1 2 2))]) dX7_bag_32 rfl (fun _ _ _ => rfl) rfl rfl rfl rfl rfl rfl ?_
  refine zf_ld (pc' := 34) (v := .inr (.inr (1, 0))) dX7_bag_33 rfl (fun _ _ _ => rfl) rfl rfl rfl ?_
  refine zf_gfr (pc' := 37) (b := 2) dX7_bag_34 rfl rfl (by decide) rfl rfl ?_
  refine zf_ld (pc' := 38) (v := .inl v1) dX7_bag_37 rfl (fun _ _ _ => rfl) rfl rfl rfl ?_
  refine zf_pf (pc' := 41) dX7_bag_38 rfl rfl zf_walk2.1 zf_walk2.2.1 rfl rfl (fun m1 e2 => ?_)
  replace h := h m1 e2
  refine zf_ld (pc' := 42) (v := .inl (m.1 2 2)) dX7_bag_41 rfl (fun _ _ _ => rfl) rfl rfl rfl ?_
  exact zf_ri dX7_bag_42 rfl h
def wp_81 (v1 : Int32) (m : zf_Me) (Q : Int32 → zf_Me → Prop) : Prop := ((v1.toInt = (-1) → wq_81_25 v1 m Q) ∧ (¬ v1.toInt = (-1) → wp_65 3 v1 m (fun b3 m4 => ((b3 = true → wq_81_25 v1 m4 Q) ∧ (b3 = false → wp_110 1 m4 (fun x5 m6 => Q x5 m6))))))
theorem zr_81 {d : Nat} (hd : 1 ≤ d) {v1 : Int32} {Q : Int32 → zf_Me → Prop} {m : zf_Me} (h : wp_81 v1 m Q) : zf_M d 81 [.inr (.inr (1, 0)), .inl v1] m (zf_I Q) := by
  obtain ⟨e, rfl⟩ : ∃ z, d = z + 1 := ⟨d - 1, by omega⟩
  unfold wp_81 at h
  refine zf_M_of (Nat.le_of_ble_eq_true rfl) zm_81 (L := [some (.inr (.inr (1, 0))), some (.inl v1), none]) rfl ?_
  refine zf_ld (pc' := 1) (v := .inl v1) dX7_bag_0 rfl (fun _ _ _ => rfl) rfl rfl rfl ?_
  refine zf_ic (v := (-1)) (pc' := 2) dX7_bag_1 rfl rfl ?_
  refine zf_icmp_eq (tgt := 25) (pc' := 5) dX7_bag_2 rfl rfl (fun g => ?_) (fun g => ?_)
  · replace h := h.1 g
    exact zf_lo (zq_81_25 (by omega) h) ⟨rfl, rfl, trivial⟩
  · replace h := h.2 g
    refine zf_ld (pc' := 6) (v := .inr (.inr (1, 0))) dX7_bag_5 rfl (fun _ _ _ => rfl) rfl rfl rfl ?_
    refine zf_gfr (pc' := 9) (b := 2) dX7_bag_6 rfl rfl (by decide) rfl rfl ?_
    refine zf_gfr (pc' := 12) (b := 3) dX7_bag_9 rfl rfl zf_walk2.1 zf_walk2.2.1 rfl ?_
    refine zf_ld (pc' := 13) (v := .inl v1) dX7_bag_12 rfl (fun _ _ _ => rfl) rfl rfl rfl ?_
    refine zf_iv (k := 65) (pc' := 16) (r := []) dX7_bag_13 rfl rfl rfl rfl zf_walk2.2.2.1.1 zf_walk2.2.2.1.2.1 rfl rfl (zr_65 (by omega) zf_walk2.2.2.1 h) (zf_kB (fun b3 m4 h => ?_))
    refine zf_ib_ne (tgt := 25) (pc' := 19) dX7_bag_16 rfl rfl (fun g => ?_) (fun g => ?_)
    · replace h := h.1 g
      exact zf_lo (zq_81_25 (by omega) h) ⟨rfl, rfl, trivial⟩
    · replace h := h.2 g
      refine zf_ld (pc' := 20) (v := .inr (.inr (1, 0))) dX7_bag_19 rfl (fun _ _ _ => rfl) rfl rfl rfl ?_
      refine zf_ic (v := 1) (pc' := 21) dX7_bag_20 rfl rfl ?_
      refine zf_iv (k := 110) (pc' := 24) (r := []) dX7_bag_21 rfl rfl rfl rfl (by decide) rfl rfl rfl (zr_110 (by omega) h) (zf_kI (fun x5 m6 h => ?_))
      exact zf_ri dX7_bag_24 rfl h
def zt_82 : zx_MT := (7, yX7_way, cX7_way, 3, (some FieldType.int), 1, 0)
theorem zm_82 : zx_m 82 = zt_82 := rfl
theorem dX7_way_r0 : zdcP cX7_way 0 [(.aload_n 0, 1), (.iload_n 1, 1), (.invokevirtual 90, 3), (.istore_n 2, 1), (.iload_n 2, 1), (.ifCond .eq 9, 3), (.aload_n 0, 1), (.iload_n 2, 1), (.invokevirtual 82, 3), (.ireturn, 1), (.aload_n 0, 1), (.getfield 54, 3), (.aload_n 0, 1), (.getfield 11, 3), (.iload_n 1, 1), (.aaload, 1)] := zdcA_ok (by decide +kernel)
theorem dX7_way_0 : decode cX7_way 0 = .ok (.aload_n 0, 1) := dX7_way_r0.1
theorem dX7_way_1 : decode cX7_way 1 = .ok (.iload_n 1, 1) := dX7_way_r0.2.1
theorem dX7_way_2 : decode cX7_way 2 = .ok (.invokevirtual 90, 3) := dX7_way_r0.2.2.1
theorem dX7_way_5 : decode cX7_way 5 = .ok (.istore_n 2, 1) := dX7_way_r0.2.2.2.1
theorem dX7_way_6 : decode cX7_way 6 = .ok (.iload_n 2, 1) := dX7_way_r0.2.2.2.2.1
theorem dX7_way_7 : decode cX7_way 7 = .ok (.ifCond .eq 9, 3) := dX7_way_r0.2.2.2.2.2.1
theorem dX7_way_10 : decode cX7_way 10 = .ok (.aload_n 0, 1) := dX7_way_r0.2.2.2.2.2.2.1
theorem dX7_way_11 : decode cX7_way 11 = .ok (.iload_n 2, 1) := dX7_way_r0.2.2.2.2.2.2.2.1
theorem dX7_way_12 : decode cX7_way 12 = .ok (.invokevirtual 82, 3) := dX7_way_r0.2.2.2.2.2.2.2.2.1
theorem dX7_way_15 : decode cX7_way 15 = .ok (.ireturn, 1) := dX7_way_r0.2.2.2.2.2.2.2.2.2.1
theorem dX7_way_16 : decode cX7_way 16 = .ok (.aload_n 0, 1) := dX7_way_r0.2.2.2.2.2.2.2.2.2.2.1
theorem dX7_way_17 : decode cX7_way 17 = .ok (.getfield 54, 3) := dX7_way_r0.2.2.2.2.2.2.2.2.2.2.2.1
theorem dX7_way_20 : decode cX7_way 20 = .ok (.aload_n 0, 1) := dX7_way_r0.2.2.2.2.2.2.2.2.2.2.2.2.1
theorem dX7_way_21 : decode cX7_way 21 = .ok (.getfield 11, 3) := dX7_way_r0.2.2.2.2.2.2.2.2.2.2.2.2.2.1
theorem dX7_way_24 : decode cX7_way 24 = .ok (.iload_n 1, 1) := dX7_way_r0.2.2.2.2.2.2.2.2.2.2.2.2.2.2.1
theorem dX7_way_25 : decode cX7_way 25 = .ok (.aaload, 1) := dX7_way_r0.2.2.2.2.2.2.2.2.2.2.2.2.2.2.2.1
theorem dX7_way_r26 : zdcP cX7_way 26 [(.aload_n 0, 1), (.getfield 23, 3), (.invokevirtual 189, 3), (.aload_n 0, 1), (.aload_n 0, 1), (.getfield 54, 3), (.getfield 193, 3), (.putfield 73, 3), (.aload_n 0, 1), (.getfield 73, 3), (.iconst (-1), 1), (.if_icmp .eq 10, 3), (.aload_n 0, 1), (.bipush 6, 2), (.invokevirtual 82, 3), (.ireturn, 1)] := zdcA_ok (by decide +kernel)
theorem dX7_way_26 : decode cX7_way 26 = .ok (.aload_n 0, 1) := dX7_way_r26.1
theorem dX7_way_27 : decode cX7_way 27 = .ok (.getfield 23, 3) := dX7_way_r26.2.1
theorem dX7_way_30 : decode cX7_way 30 = .ok (.invokevirtual 189, 3) := dX7_way_r26.2.2.1
theorem dX7_way_33 : decode cX7_way 33 = .ok (.aload_n 0, 1) := dX7_way_r26.2.2.2.1
theorem dX7_way_34 : decode cX7_way 34 = .ok (.aload_n 0, 1) := dX7_way_r26.2.2.2.2.1
theorem dX7_way_35 : decode cX7_way 35 = .ok (.getfield 54, 3) := dX7_way_r26.2.2.2.2.2.1
theorem dX7_way_38 : decode cX7_way 38 = .ok (.getfield 193, 3) := dX7_way_r26.2.2.2.2.2.2.1
theorem dX7_way_41 : decode cX7_way 41 = .ok (.putfield 73, 3) := dX7_way_r26.2.2.2.2.2.2.2.1
theorem dX7_way_44 : decode cX7_way 44 = .ok (.aload_n 0, 1) := dX7_way_r26.2.2.2.2.2.2.2.2.1
theorem dX7_way_45 : decode cX7_way 45 = .ok (.getfield 73, 3) := dX7_way_r26.2.2.2.2.2.2.2.2.2.1
theorem dX7_way_48 : decode cX7_way 48 = .ok (.iconst (-1), 1) := dX7_way_r26.2.2.2.2.2.2.2.2.2.2.1
theorem dX7_way_49 : decode cX7_way 49 = .ok (.if_icmp .eq 10, 3) := dX7_way_r26.2.2.2.2.2.2.2.2.2.2.2.1
theorem dX7_way_52 : decode cX7_way 52 = .ok (.aload_n 0, 1) := dX7_way_r26.2.2.2.2.2.2.2.2.2.2.2.2.1
theorem dX7_way_53 : decode cX7_way 53 = .ok (.bipush 6, 2) := dX7_way_r26.2.2.2.2.2.2.2.2.2.2.2.2.2.1
theorem dX7_way_55 : decode cX7_way 55 = .ok (.invokevirtual 82, 3) := dX7_way_r26.2.2.2.2.2.2.2.2.2.2.2.2.2.2.1
theorem dX7_way_58 : decode cX7_way 58 = .ok (.ireturn, 1) := dX7_way_r26.2.2.2.2.2.2.2.2.2.2.2.2.2.2.2.1
theorem dX7_way_r59 : zdcP cX7_way 59 [(.aload_n 0, 1), (.getfield 23, 3), (.getfield 30, 3), (.aload_n 0, 1), (.getfield 54, 3), (.getfield 196, 3), (.getfield 30, 3), (.invokevirtual 199, 3), (.aload_n 0, 1), (.getfield 23, 3), (.aload_n 0, 1), (.getfield 54, 3), (.getfield 196, 3), (.invokevirtual 202, 3), (.aload_n 0, 1), (.getfield 54, 3)] := zdcA_ok (by decide +kernel)
theorem dX7_way_59 : decode cX7_way 59 = .ok (.aload_n 0, 1) := dX7_way_r59.1
theorem dX7_way_60 : decode cX7_way 60 = .ok (.getfield 23, 3) := dX7_way_r59.2.1
theorem dX7_way_63 : decode cX7_way 63 = .ok (.getfield 30, 3) := dX7_way_r59.2.2.1
theorem dX7_way_66 : decode cX7_way 66 = .ok (.aload_n 0, 1) := dX7_way_r59.2.2.2.1
theorem dX7_way_67 : decode cX7_way 67 = .ok (.getfield 54, 3) := dX7_way_r59.2.2.2.2.1
theorem dX7_way_70 : decode cX7_way 70 = .ok (.getfield 196, 3) := dX7_way_r59.2.2.2.2.2.1
theorem dX7_way_73 : decode cX7_way 73 = .ok (.getfield 30, 3) := dX7_way_r59.2.2.2.2.2.2.1
theorem dX7_way_76 : decode cX7_way 76 = .ok (.invokevirtual 199, 3) := dX7_way_r59.2.2.2.2.2.2.2.1
theorem dX7_way_79 : decode cX7_way 79 = .ok (.aload_n 0, 1) := dX7_way_r59.2.2.2.2.2.2.2.2.1
theorem dX7_way_80 : decode cX7_way 80 = .ok (.getfield 23, 3) := dX7_way_r59.2.2.2.2.2.2.2.2.2.1
theorem dX7_way_83 : decode cX7_way 83 = .ok (.aload_n 0, 1) := dX7_way_r59.2.2.2.2.2.2.2.2.2.2.1
theorem dX7_way_84 : decode cX7_way 84 = .ok (.getfield 54, 3) := dX7_way_r59.2.2.2.2.2.2.2.2.2.2.2.1
theorem dX7_way_87 : decode cX7_way 87 = .ok (.getfield 196, 3) := dX7_way_r59.2.2.2.2.2.2.2.2.2.2.2.2.1
theorem dX7_way_90 : decode cX7_way 90 = .ok (.invokevirtual 202, 3) := dX7_way_r59.2.2.2.2.2.2.2.2.2.2.2.2.2.1
theorem dX7_way_93 : decode cX7_way 93 = .ok (.aload_n 0, 1) := dX7_way_r59.2.2.2.2.2.2.2.2.2.2.2.2.2.2.1
theorem dX7_way_94 : decode cX7_way 94 = .ok (.getfield 54, 3) := dX7_way_r59.2.2.2.2.2.2.2.2.2.2.2.2.2.2.2.1
theorem dX7_way_r97 : zdcP cX7_way 97 [(.getfield 205, 3), (.ireturn, 1)] := zdcA_ok (by decide +kernel)
theorem dX7_way_97 : decode cX7_way 97 = .ok (.getfield 205, 3) := dX7_way_r97.1
theorem dX7_way_100 : decode cX7_way 100 = .ok (.ireturn, 1) := dX7_way_r97.2.1
def wp_82 (v1 : Int32) (m : zf_Me) (Q : Int32 → zf_Me → Prop) : Prop := wp_111 v1 m (fun x1 m2 => ((x1.toInt = 0 → ((0 ≤ (Int32.toInt v1) ∧ (Int32.toInt v1) < 8) ∧ wp_26 (47 + 2 * (Int32.toInt v1).toNat) (48 + 2 * (Int32.toInt v1).toNat) 2 3 8 m2 (fun m6 => (∀ m7, m7 = zf_u m6 0 10 (m6.1 35 6) → ((((m7.1 0 10)).toInt = (-1) → wp_63 3 37 m7 (fun m10 => wp_43 2 3 8 36 37 42 m10 (fun m12 => Q (m12.1 35 5) m12))) ∧ (¬ ((m7.1 0 10)).toInt = (-1) → wp_109 6 m7 (fun x13 m14 => Q x13 m14))))))) ∧ (¬ x1.toInt = 0 → wp_109 x1 m2 (fun x15 m16 => Q x15 m16))))
theorem zr_82 {d : Nat} (hd : 10 ≤ d) {v1 : Int32} {Q : Int32 → zf_Me → Prop} {m : zf_Me} (h : wp_82 v1 m Q) : zf_M d 82 [.inr (.inr (1, 0)), .inl v1] m (zf_I Q) := by
  obtain ⟨e, rfl⟩ : ∃ z, d = z + 1 := ⟨d - 1, by omega⟩
  unfold wp_82 at h
  refine zf_M_of (Nat.le_of_ble_eq_true rfl) zm_82 (L := [some (.inr (.inr (1, 0))), some (.inl v1), none]) rfl ?_
  refine zf_ld (pc' := 1) (v := .inr (.inr (1, 0))) dX7_way_0 rfl (fun _ _ _ => rfl) rfl rfl rfl ?_
  refine zf_ld (pc' := 2) (v := .inl v1) dX7_way_1 rfl (fun _ _ _ => rfl) rfl rfl rfl ?_
  refine zf_iv (k := 111) (pc' := 5) (r := []) dX7_way_2 rfl rfl rfl rfl (by decide) rfl rfl rfl (zr_111 (by omega) h) (zf_kI (fun x1 m2 h => ?_))
  refine zf_st (pc' := 6) (L2 := [some (.inr (.inr (1, 0))), some (.inl v1), some (.inl x1)]) dX7_way_5 rfl (fun _ _ _ => rfl) rfl rfl rfl rfl rfl rfl ?_
  refine zf_ld (pc' := 7) (v := .inl x1) dX7_way_6 rfl (fun _ _ _ => rfl) rfl rfl rfl ?_
  refine zf_if_eq (tgt := 16) (pc' := 10) dX7_way_7 rfl rfl (fun g => ?_) (fun g => ?_)
  · replace h := h.1 g
    refine zf_ld (pc' := 17) (v := .inr (.inr (1, 0))) dX7_way_16 rfl (fun _ _ _ => rfl) rfl rfl rfl ?_
    refine zf_gfr (pc' := 20) (b := 35) dX7_way_17 rfl rfl (by decide) rfl rfl ?_
    refine zf_ld (pc' := 21) (v := .inr (.inr (1, 0))) dX7_way_20 rfl (fun _ _ _ => rfl) rfl rfl rfl ?_
    refine zf_gfr (pc' := 24) (b := 1) dX7_way_21 rfl rfl (by decide) rfl rfl ?_
    refine zf_ld (pc' := 25) (v := .inl v1) dX7_way_24 rfl (fun _ _ _ => rfl) rfl rfl rfl ?_
    refine zf_aal (b := 47) (n := 8) (pc' := 26) dX7_way_25 rfl (by decide) rfl (by decide) rfl h.1 zf_row1 ?_
    have hb3 := h.1
    replace h := h.2
    have hx4 : zf_shelf (47 + 2 * (Int32.toInt v1).toNat) (48 + 2 * (Int32.toInt v1).toNat) := zf_shelves (by omega)
    refine zf_ld (pc' := 27) (v := .inr (.inr (1, 0))) dX7_way_26 rfl (fun _ _ _ => rfl) rfl rfl rfl ?_
    refine zf_gfr (pc' := 30) (b := 2) dX7_way_27 rfl rfl (by decide) rfl rfl ?_
    refine zf_iv (k := 26) (pc' := 33) (r := []) dX7_way_30 rfl rfl rfl rfl (by decide) rfl rfl rfl (zr_26 (by omega) hx4 zf_walk2 h) (zf_kO (fun m6 h => ?_))
    refine zf_ld (pc' := 34) (v := .inr (.inr (1, 0))) dX7_way_33 rfl (fun _ _ _ => rfl) rfl rfl rfl ?_
    refine zf_ld (pc' := 35) (v := .inr (.inr (1, 0))) dX7_way_34 rfl (fun _ _ _ => rfl) rfl rfl rfl ?_
    refine zf_gfr (pc' := 38) (b := 35) dX7_way_35 rfl rfl (by decide) rfl rfl ?_
    refine zf_gfi (pc' := 41) dX7_way_38 rfl rfl (by decide) rfl rfl ?_
    refine zf_pf (pc' := 44) dX7_way_41 rfl rfl (by decide) rfl rfl rfl (fun m7 e8 => ?_)
    replace h := h m7 e8
    refine zf_ld (pc' := 45) (v := .inr (.inr (1, 0))) dX7_way_44 rfl (fun _ _ _ => rfl) rfl rfl rfl ?_
    refine zf_gfi (pc' := 48) dX7_way_45 rfl rfl (by decide) rfl rfl ?_
    refine zf_ic (v := (-1)) (pc' := 49) dX7_way_48 rfl rfl ?_
    refine zf_icmp_eq (tgt := 59) (pc' := 52) dX7_way_49 rfl rfl (fun g => ?_) (fun g => ?_)
    · replace h := h.1 g
      refine zf_ld (pc' := 60) (v := .inr (.inr (1, 0))) dX7_way_59 rfl (fun _ _ _ => rfl) rfl rfl rfl ?_
      refine zf_gfr (pc' := 63) (b := 2) dX7_way_60 rfl rfl (by decide) rfl rfl ?_
      refine zf_gfr (pc' := 66) (b := 3) dX7_way_63 rfl rfl zf_walk2.1 zf_walk2.2.1 rfl ?_
      refine zf_ld (pc' := 67) (v := .inr (.inr (1, 0))) dX7_way_66 rfl (fun _ _ _ => rfl) rfl rfl rfl ?_
      refine zf_gfr (pc' := 70) (b := 35) dX7_way_67 rfl rfl (by decide) rfl rfl ?_
      refine zf_gfr (pc' := 73) (b := 36) dX7_way_70 rfl rfl (by decide) rfl rfl ?_
      refine zf_gfr (pc' := 76) (b := 37) dX7_way_73 rfl rfl zf_walk36.1 zf_walk36.2.1 rfl ?_
      refine zf_iv (k := 63) (pc' := 79) (r := []) dX7_way_76 rfl rfl rfl rfl zf_walk2.2.2.1.1 zf_walk2.2.2.1.2.1 rfl rfl (zr_63 (by omega) zf_walk2.2.2.1 zf_walk36.2.2.1 h) (zf_kO (fun m10 h => ?_))
      refine zf_ld (pc' := 80) (v := .inr (.inr (1, 0))) dX7_way_79 rfl (fun _ _ _ => rfl) rfl rfl rfl ?_
      refine zf_gfr (pc' := 83) (b := 2) dX7_way_80 rfl rfl (by decide) rfl rfl ?_
      refine zf_ld (pc' := 84) (v := .inr (.inr (1, 0))) dX7_way_83 rfl (fun _ _ _ => rfl) rfl rfl rfl ?_
      refine zf_gfr (pc' := 87) (b := 35) dX7_way_84 rfl rfl (by decide) rfl rfl ?_
      refine zf_gfr (pc' := 90) (b := 36) dX7_way_87 rfl rfl (by decide) rfl rfl ?_
      refine zf_iv (k := 43) (pc' := 93) (r := []) dX7_way_90 rfl rfl rfl rfl zf_walk2.1 zf_walk2.2.1 rfl rfl (zr_43 (by omega) zf_walk2 zf_walk36 h) (zf_kO (fun m12 h => ?_))
      refine zf_ld (pc' := 94) (v := .inr (.inr (1, 0))) dX7_way_93 rfl (fun _ _ _ => rfl) rfl rfl rfl ?_
      refine zf_gfr (pc' := 97) (b := 35) dX7_way_94 rfl rfl (by decide) rfl rfl ?_
      refine zf_gfi (pc' := 100) dX7_way_97 rfl rfl (by decide) rfl rfl ?_
      exact zf_ri dX7_way_100 rfl h
    · replace h := h.2 g
      refine zf_ld (pc' := 53) (v := .inr (.inr (1, 0))) dX7_way_52 rfl (fun _ _ _ => rfl) rfl rfl rfl ?_
      refine zf_bi (v := 6) (pc' := 55) dX7_way_53 rfl rfl ?_
      refine zf_iv (k := 109) (pc' := 58) (r := []) dX7_way_55 rfl rfl rfl rfl (by decide) rfl rfl rfl (zr_109 (by omega) h) (zf_kI (fun x13 m14 h => ?_))
      exact zf_ri dX7_way_58 rfl h
  · replace h := h.2 g
    refine zf_ld (pc' := 11) (v := .inr (.inr (1, 0))) dX7_way_10 rfl (fun _ _ _ => rfl) rfl rfl rfl ?_
    refine zf_ld (pc' := 12) (v := .inl x1) dX7_way_11 rfl (fun _ _ _ => rfl) rfl rfl rfl ?_
    refine zf_iv (k := 109) (pc' := 15) (r := []) dX7_way_12 rfl rfl rfl rfl (by decide) rfl rfl rfl (zr_109 (by omega) h) (zf_kI (fun x15 m16 h => ?_))
    exact zf_ri dX7_way_15 rfl h
def zt_83 : zx_MT := (7, yX7_fault, cX7_fault, 1, (some FieldType.int), 0, 0)
theorem zm_83 : zx_m 83 = zt_83 := rfl
theorem dX7_fault_r0 : zdcP cX7_fault 0 [(.aload_n 0, 1), (.getfield 73, 3), (.ireturn, 1)] := zdcA_ok (by decide +kernel)
theorem dX7_fault_0 : decode cX7_fault 0 = .ok (.aload_n 0, 1) := dX7_fault_r0.1
theorem dX7_fault_1 : decode cX7_fault 1 = .ok (.getfield 73, 3) := dX7_fault_r0.2.1
theorem dX7_fault_4 : decode cX7_fault 4 = .ok (.ireturn, 1) := dX7_fault_r0.2.2.1
def wp_83 (m : zf_Me) (Q : Int32 → zf_Me → Prop) : Prop := Q (m.1 0 10) m
theorem zr_83 {d : Nat} (hd : 0 ≤ d) {Q : Int32 → zf_Me → Prop} {m : zf_Me} (h : wp_83 m Q) : zf_M d 83 [.inr (.inr (1, 0))] m (zf_I Q) := by
  unfold wp_83 at h
  refine zf_M_of (Nat.le_of_ble_eq_true rfl) zm_83 (L := [some (.inr (.inr (1, 0)))]) rfl ?_
  refine zf_ld (pc' := 1) (v := .inr (.inr (1, 0))) dX7_fault_0 rfl (fun _ _ _ => rfl) rfl rfl rfl ?_
  refine zf_gfi (pc' := 4) dX7_fault_1 rfl rfl (by decide) rfl rfl ?_
  exact zf_ri dX7_fault_4 rfl h
def zt_84 : zx_MT := (7, yX7_load, cX7_load, 3, (some FieldType.int), 2, 0)
theorem zm_84 : zx_m 84 = zt_84 := rfl
theorem dX7_load_r0 : zdcP cX7_load 0 [(.aload_n 0, 1), (.getfield 23, 3), (.getfield 30, 3), (.iload_n 1, 1), (.invokevirtual 118, 3), (.ifCond .ne 9, 3), (.aload_n 0, 1), (.iconst 1, 1), (.invokevirtual 82, 3), (.ireturn, 1), (.aload_n 0, 1), (.getfield 23, 3), (.getfield 30, 3), (.iload_n 2, 1), (.invokevirtual 159, 3), (.ifCond .ne 9, 3)] := zdcA_ok (by decide +kernel)
theorem dX7_load_0 : decode cX7_load 0 = .ok (.aload_n 0, 1) := dX7_load_r0.1
theorem dX7_load_1 : decode cX7_load 1 = .ok (.getfield 23, 3) := dX7_load_r0.2.1
theorem dX7_load_4 : decode cX7_load 4 = .ok (.getfield 30, 3) := dX7_load_r0.2.2.1
theorem dX7_load_7 : decode cX7_load 7 = .ok (.iload_n 1, 1) := dX7_load_r0.2.2.2.1
theorem dX7_load_8 : decode cX7_load 8 = .ok (.invokevirtual 118, 3) := dX7_load_r0.2.2.2.2.1
theorem dX7_load_11 : decode cX7_load 11 = .ok (.ifCond .ne 9, 3) := dX7_load_r0.2.2.2.2.2.1
theorem dX7_load_14 : decode cX7_load 14 = .ok (.aload_n 0, 1) := dX7_load_r0.2.2.2.2.2.2.1
theorem dX7_load_15 : decode cX7_load 15 = .ok (.iconst 1, 1) := dX7_load_r0.2.2.2.2.2.2.2.1
theorem dX7_load_16 : decode cX7_load 16 = .ok (.invokevirtual 82, 3) := dX7_load_r0.2.2.2.2.2.2.2.2.1
theorem dX7_load_19 : decode cX7_load 19 = .ok (.ireturn, 1) := dX7_load_r0.2.2.2.2.2.2.2.2.2.1
theorem dX7_load_20 : decode cX7_load 20 = .ok (.aload_n 0, 1) := dX7_load_r0.2.2.2.2.2.2.2.2.2.2.1
theorem dX7_load_21 : decode cX7_load 21 = .ok (.getfield 23, 3) := dX7_load_r0.2.2.2.2.2.2.2.2.2.2.2.1
theorem dX7_load_24 : decode cX7_load 24 = .ok (.getfield 30, 3) := dX7_load_r0.2.2.2.2.2.2.2.2.2.2.2.2.1
theorem dX7_load_27 : decode cX7_load 27 = .ok (.iload_n 2, 1) := dX7_load_r0.2.2.2.2.2.2.2.2.2.2.2.2.2.1
theorem dX7_load_28 : decode cX7_load 28 = .ok (.invokevirtual 159, 3) := dX7_load_r0.2.2.2.2.2.2.2.2.2.2.2.2.2.2.1
theorem dX7_load_31 : decode cX7_load 31 = .ok (.ifCond .ne 9, 3) := dX7_load_r0.2.2.2.2.2.2.2.2.2.2.2.2.2.2.2.1
theorem dX7_load_r34 : zdcP cX7_load 34 [(.aload_n 0, 1), (.iconst 5, 1), (.invokevirtual 82, 3), (.ireturn, 1), (.aload_n 0, 1), (.getfield 23, 3), (.iload_n 1, 1), (.aload_n 0, 1), (.getfield 23, 3), (.getfield 30, 3), (.getfield 165, 3), (.iload_n 2, 1), (.iaload, 1), (.invokevirtual 140, 3), (.ireturn, 1)] := zdcA_ok (by decide +kernel)
theorem dX7_load_34 : decode cX7_load 34 = .ok (.aload_n 0, 1) := dX7_load_r34.1
theorem dX7_load_35 : decode cX7_load 35 = .ok (.iconst 5, 1) := dX7_load_r34.2.1
theorem dX7_load_36 : decode cX7_load 36 = .ok (.invokevirtual 82, 3) := dX7_load_r34.2.2.1
theorem dX7_load_39 : decode cX7_load 39 = .ok (.ireturn, 1) := dX7_load_r34.2.2.2.1
theorem dX7_load_40 : decode cX7_load 40 = .ok (.aload_n 0, 1) := dX7_load_r34.2.2.2.2.1
theorem dX7_load_41 : decode cX7_load 41 = .ok (.getfield 23, 3) := dX7_load_r34.2.2.2.2.2.1
theorem dX7_load_44 : decode cX7_load 44 = .ok (.iload_n 1, 1) := dX7_load_r34.2.2.2.2.2.2.1
theorem dX7_load_45 : decode cX7_load 45 = .ok (.aload_n 0, 1) := dX7_load_r34.2.2.2.2.2.2.2.1
theorem dX7_load_46 : decode cX7_load 46 = .ok (.getfield 23, 3) := dX7_load_r34.2.2.2.2.2.2.2.2.1
theorem dX7_load_49 : decode cX7_load 49 = .ok (.getfield 30, 3) := dX7_load_r34.2.2.2.2.2.2.2.2.2.1
theorem dX7_load_52 : decode cX7_load 52 = .ok (.getfield 165, 3) := dX7_load_r34.2.2.2.2.2.2.2.2.2.2.1
theorem dX7_load_55 : decode cX7_load 55 = .ok (.iload_n 2, 1) := dX7_load_r34.2.2.2.2.2.2.2.2.2.2.2.1
theorem dX7_load_56 : decode cX7_load 56 = .ok (.iaload, 1) := dX7_load_r34.2.2.2.2.2.2.2.2.2.2.2.2.1
theorem dX7_load_57 : decode cX7_load 57 = .ok (.invokevirtual 140, 3) := dX7_load_r34.2.2.2.2.2.2.2.2.2.2.2.2.2.1
theorem dX7_load_60 : decode cX7_load 60 = .ok (.ireturn, 1) := dX7_load_r34.2.2.2.2.2.2.2.2.2.2.2.2.2.2.1
def wp_84 (v1 : Int32) (v2 : Int32) (m : zf_Me) (Q : Int32 → zf_Me → Prop) : Prop := wp_65 3 v1 m (fun b1 m2 => ((b1 = true → wp_64 3 v2 m2 (fun b3 m4 => ((b3 = true → ((0 ≤ (Int32.toInt v2) ∧ (Int32.toInt v2) < (24 : Int)) ∧ wp_51 2 3 8 v1 (m4.1 4 (Int32.toInt v2).toNat) m4 (fun x5 m6 => Q x5 m6))) ∧ (b3 = false → wp_109 5 m4 (fun x7 m8 => Q x7 m8))))) ∧ (b1 = false → wp_109 1 m2 (fun x9 m10 => Q x9 m10))))
theorem zr_84 {d : Nat} (hd : 1 ≤ d) {v1 : Int32} {v2 : Int32} {Q : Int32 → zf_Me → Prop} {m : zf_Me} (h : wp_84 v1 v2 m Q) : zf_M d 84 [.inr (.inr (1, 0)), .inl v1, .inl v2] m (zf_I Q) := by
  obtain ⟨e, rfl⟩ : ∃ z, d = z + 1 := ⟨d - 1, by omega⟩
  unfold wp_84 at h
  refine zf_M_of (Nat.le_of_ble_eq_true rfl) zm_84 (L := [some (.inr (.inr (1, 0))), some (.inl v1), some (.inl v2)]) rfl ?_
  refine zf_ld (pc' := 1) (v := .inr (.inr (1, 0))) dX7_load_0 rfl (fun _ _ _ => rfl) rfl rfl rfl ?_
  refine zf_gfr (pc' := 4) (b := 2) dX7_load_1 rfl rfl (by decide) rfl rfl ?_
  refine zf_gfr (pc' := 7) (b := 3) dX7_load_4 rfl rfl zf_walk2.1 zf_walk2.2.1 rfl ?_
  refine zf_ld (pc' := 8) (v := .inl v1) dX7_load_7 rfl (fun _ _ _ => rfl) rfl rfl rfl ?_
  refine zf_iv (k := 65) (pc' := 11) (r := []) dX7_load_8 rfl rfl rfl rfl zf_walk2.2.2.1.1 zf_walk2.2.2.1.2.1 rfl rfl (zr_65 (by omega) zf_walk2.2.2.1 h) (zf_kB (fun b1 m2 h => ?_))
  refine zf_ib_ne (tgt := 20) (pc' := 14) dX7_load_11 rfl rfl (fun g => ?_) (fun g => ?_)
  · replace h := h.1 g
    refine zf_ld (pc' := 21) (v := .inr (.inr (1, 0))) dX7_load_20 rfl (fun _ _ _ => rfl) rfl rfl rfl ?_
    refine zf_gfr (pc' := 24) (b := 2) dX7_load_21 rfl rfl (by decide) rfl rfl ?_
    refine zf_gfr (pc' := 27) (b := 3) dX7_load_24 rfl rfl zf_walk2.1 zf_walk2.2.1 rfl ?_
    refine zf_ld (pc' := 28) (v := .inl v2) dX7_load_27 rfl (fun _ _ _ => rfl) rfl rfl rfl ?_
    refine zf_iv (k := 64) (pc' := 31) (r := []) dX7_load_28 rfl rfl rfl rfl zf_walk2.2.2.1.1 zf_walk2.2.2.1.2.1 rfl rfl (zr_64 (by omega) zf_walk2.2.2.1 h) (zf_kB (fun b3 m4 h => ?_))
    refine zf_ib_ne (tgt := 40) (pc' := 34) dX7_load_31 rfl rfl (fun g => ?_) (fun g => ?_)
    · replace h := h.1 g
      refine zf_ld (pc' := 41) (v := .inr (.inr (1, 0))) dX7_load_40 rfl (fun _ _ _ => rfl) rfl rfl rfl ?_
      refine zf_gfr (pc' := 44) (b := 2) dX7_load_41 rfl rfl (by decide) rfl rfl ?_
      refine zf_ld (pc' := 45) (v := .inl v1) dX7_load_44 rfl (fun _ _ _ => rfl) rfl rfl rfl ?_
      refine zf_ld (pc' := 46) (v := .inr (.inr (1, 0))) dX7_load_45 rfl (fun _ _ _ => rfl) rfl rfl rfl ?_
      refine zf_gfr (pc' := 49) (b := 2) dX7_load_46 rfl rfl (by decide) rfl rfl ?_
      refine zf_gfr (pc' := 52) (b := 3) dX7_load_49 rfl rfl zf_walk2.1 zf_walk2.2.1 rfl ?_
      refine zf_gfr (pc' := 55) (b := 4) dX7_load_52 rfl rfl zf_walk2.2.2.1.1 zf_walk2.2.2.1.2.1 rfl ?_
      refine zf_ld (pc' := 56) (v := .inl v2) dX7_load_55 rfl (fun _ _ _ => rfl) rfl rfl rfl ?_
      refine zf_ial (pc' := 57) dX7_load_56 rfl zf_walk2.2.2.1.2.2.1.1 zf_walk2.2.2.1.2.2.1.2 h.1 rfl ?_
      replace h := h.2
      refine zf_iv (k := 51) (pc' := 60) (r := []) dX7_load_57 rfl rfl rfl rfl zf_walk2.1 zf_walk2.2.1 rfl rfl (zr_51 (by omega) zf_walk2 h) (zf_kI (fun x5 m6 h => ?_))
      exact zf_ri dX7_load_60 rfl h
    · replace h := h.2 g
      refine zf_ld (pc' := 35) (v := .inr (.inr (1, 0))) dX7_load_34 rfl (fun _ _ _ => rfl) rfl rfl rfl ?_
      refine zf_ic (v := 5) (pc' := 36) dX7_load_35 rfl rfl ?_
      refine zf_iv (k := 109) (pc' := 39) (r := []) dX7_load_36 rfl rfl rfl rfl (by decide) rfl rfl rfl (zr_109 (by omega) h) (zf_kI (fun x7 m8 h => ?_))
      exact zf_ri dX7_load_39 rfl h
  · replace h := h.2 g
    refine zf_ld (pc' := 15) (v := .inr (.inr (1, 0))) dX7_load_14 rfl (fun _ _ _ => rfl) rfl rfl rfl ?_
    refine zf_ic (v := 1) (pc' := 16) dX7_load_15 rfl rfl ?_
    refine zf_iv (k := 109) (pc' := 19) (r := []) dX7_load_16 rfl rfl rfl rfl (by decide) rfl rfl rfl (zr_109 (by omega) h) (zf_kI (fun x9 m10 h => ?_))
    exact zf_ri dX7_load_19 rfl h
def zt_85 : zx_MT := (7, yX7_may, cX7_may, 2, (some FieldType.int), 1, 0)
theorem zm_85 : zx_m 85 = zt_85 := rfl
theorem dX7_may_r0 : zdcP cX7_may 0 [(.iload_n 1, 1), (.ifCond .lt 9, 3), (.iload_n 1, 1), (.bipush 10, 2), (.if_icmp .lt 10, 3), (.aload_n 0, 1), (.bipush 6, 2), (.invokevirtual 82, 3), (.ireturn, 1), (.aload_n 0, 1), (.getfield 23, 3), (.iload_n 1, 1), (.invokevirtual 208, 3), (.ifCond .eq 7, 3), (.iconst 1, 1), (.goto 4, 3)] := zdcA_ok (by decide +kernel)
theorem dX7_may_0 : decode cX7_may 0 = .ok (.iload_n 1, 1) := dX7_may_r0.1
theorem dX7_may_1 : decode cX7_may 1 = .ok (.ifCond .lt 9, 3) := dX7_may_r0.2.1
theorem dX7_may_4 : decode cX7_may 4 = .ok (.iload_n 1, 1) := dX7_may_r0.2.2.1
theorem dX7_may_5 : decode cX7_may 5 = .ok (.bipush 10, 2) := dX7_may_r0.2.2.2.1
theorem dX7_may_7 : decode cX7_may 7 = .ok (.if_icmp .lt 10, 3) := dX7_may_r0.2.2.2.2.1
theorem dX7_may_10 : decode cX7_may 10 = .ok (.aload_n 0, 1) := dX7_may_r0.2.2.2.2.2.1
theorem dX7_may_11 : decode cX7_may 11 = .ok (.bipush 6, 2) := dX7_may_r0.2.2.2.2.2.2.1
theorem dX7_may_13 : decode cX7_may 13 = .ok (.invokevirtual 82, 3) := dX7_may_r0.2.2.2.2.2.2.2.1
theorem dX7_may_16 : decode cX7_may 16 = .ok (.ireturn, 1) := dX7_may_r0.2.2.2.2.2.2.2.2.1
theorem dX7_may_17 : decode cX7_may 17 = .ok (.aload_n 0, 1) := dX7_may_r0.2.2.2.2.2.2.2.2.2.1
theorem dX7_may_18 : decode cX7_may 18 = .ok (.getfield 23, 3) := dX7_may_r0.2.2.2.2.2.2.2.2.2.2.1
theorem dX7_may_21 : decode cX7_may 21 = .ok (.iload_n 1, 1) := dX7_may_r0.2.2.2.2.2.2.2.2.2.2.2.1
theorem dX7_may_22 : decode cX7_may 22 = .ok (.invokevirtual 208, 3) := dX7_may_r0.2.2.2.2.2.2.2.2.2.2.2.2.1
theorem dX7_may_25 : decode cX7_may 25 = .ok (.ifCond .eq 7, 3) := dX7_may_r0.2.2.2.2.2.2.2.2.2.2.2.2.2.1
theorem dX7_may_28 : decode cX7_may 28 = .ok (.iconst 1, 1) := dX7_may_r0.2.2.2.2.2.2.2.2.2.2.2.2.2.2.1
theorem dX7_may_29 : decode cX7_may 29 = .ok (.goto 4, 3) := dX7_may_r0.2.2.2.2.2.2.2.2.2.2.2.2.2.2.2.1
theorem dX7_may_r32 : zdcP cX7_may 32 [(.iconst 0, 1), (.ireturn, 1)] := zdcA_ok (by decide +kernel)
theorem dX7_may_32 : decode cX7_may 32 = .ok (.iconst 0, 1) := dX7_may_r32.1
theorem dX7_may_33 : decode cX7_may 33 = .ok (.ireturn, 1) := dX7_may_r32.2.1
def wp_85 (v1 : Int32) (m : zf_Me) (Q : Int32 → zf_Me → Prop) : Prop := ((v1.toInt < 0 → wp_109 6 m (fun x1 m2 => Q x1 m2)) ∧ (v1.toInt ≥ 0 → ((v1.toInt < 10 → wp_52 2 3 8 v1 m (fun b3 m4 => ((b3 = false → Q 0 m4) ∧ (b3 = true → Q 1 m4)))) ∧ (v1.toInt ≥ 10 → wp_109 6 m (fun x5 m6 => Q x5 m6)))))
theorem zr_85 {d : Nat} (hd : 3 ≤ d) {v1 : Int32} {Q : Int32 → zf_Me → Prop} {m : zf_Me} (h : wp_85 v1 m Q) : zf_M d 85 [.inr (.inr (1, 0)), .inl v1] m (zf_I Q) := by
  obtain ⟨e, rfl⟩ : ∃ z, d = z + 1 := ⟨d - 1, by omega⟩
  unfold wp_85 at h
  refine zf_M_of (Nat.le_of_ble_eq_true rfl) zm_85 (L := [some (.inr (.inr (1, 0))), some (.inl v1)]) rfl ?_
  refine zf_ld (pc' := 1) (v := .inl v1) dX7_may_0 rfl (fun _ _ _ => rfl) rfl rfl rfl ?_
  refine zf_if_lt (tgt := 10) (pc' := 4) dX7_may_1 rfl rfl (fun g => ?_) (fun g => ?_)
  · replace h := h.1 g
    refine zf_ld (pc' := 11) (v := .inr (.inr (1, 0))) dX7_may_10 rfl (fun _ _ _ => rfl) rfl rfl rfl ?_
    refine zf_bi (v := 6) (pc' := 13) dX7_may_11 rfl rfl ?_
    refine zf_iv (k := 109) (pc' := 16) (r := []) dX7_may_13 rfl rfl rfl rfl (by decide) rfl rfl rfl (zr_109 (by omega) h) (zf_kI (fun x1 m2 h => ?_))
    exact zf_ri dX7_may_16 rfl h
  · replace h := h.2 g
    refine zf_ld (pc' := 5) (v := .inl v1) dX7_may_4 rfl (fun _ _ _ => rfl) rfl rfl rfl ?_
    refine zf_bi (v := 10) (pc' := 7) dX7_may_5 rfl rfl ?_
    refine zf_icmp_lt (tgt := 17) (pc' := 10) dX7_may_7 rfl rfl (fun g => ?_) (fun g => ?_)
    · replace h := h.1 g
      refine zf_ld (pc' := 18) (v := .inr (.inr (1, 0))) dX7_may_17 rfl (fun _ _ _ => rfl) rfl rfl rfl ?_
      refine zf_gfr (pc' := 21) (b := 2) dX7_may_18 rfl rfl (by decide) rfl rfl ?_
      refine zf_ld (pc' := 22) (v := .inl v1) dX7_may_21 rfl (fun _ _ _ => rfl) rfl rfl rfl ?_
      refine zf_iv (k := 52) (pc' := 25) (r := []) dX7_may_22 rfl rfl rfl rfl zf_walk2.1 zf_walk2.2.1 rfl rfl (zr_52 (by omega) zf_walk2 h) (zf_kB (fun b3 m4 h => ?_))
      refine zf_ib_eq (tgt := 32) (pc' := 28) dX7_may_25 rfl rfl (fun g => ?_) (fun g => ?_)
      · replace h := h.1 g
        refine zf_ic (v := 0) (pc' := 33) dX7_may_32 rfl rfl ?_
        exact zf_ri dX7_may_33 rfl h
      · replace h := h.2 g
        refine zf_ic (v := 1) (pc' := 29) dX7_may_28 rfl rfl ?_
        refine zf_goto (tgt := 33) dX7_may_29 rfl ?_
        exact zf_ri dX7_may_33 rfl h
    · replace h := h.2 g
      refine zf_ld (pc' := 11) (v := .inr (.inr (1, 0))) dX7_may_10 rfl (fun _ _ _ => rfl) rfl rfl rfl ?_
      refine zf_bi (v := 6) (pc' := 13) dX7_may_11 rfl rfl ?_
      refine zf_iv (k := 109) (pc' := 16) (r := []) dX7_may_13 rfl rfl rfl rfl (by decide) rfl rfl rfl (zr_109 (by omega) h) (zf_kI (fun x5 m6 h => ?_))
      exact zf_ri dX7_may_16 rfl h
def zt_86 : zx_MT := (7, yX7_next, cX7_next, 3, (some FieldType.int), 0, 0)
theorem zm_86 : zx_m 86 = zt_86 := rfl
theorem dX7_next_r0 : zdcP cX7_next 0 [(.iconst 0, 1), (.istore_n 1, 1), (.iconst 0, 1), (.istore_n 2, 1), (.iload_n 2, 1), (.bipush 10, 2), (.if_icmp .ge 26, 3), (.aload_n 0, 1), (.getfield 23, 3), (.iload_n 2, 1), (.invokevirtual 208, 3), (.ifCond .eq 9, 3), (.iload_n 1, 1), (.iconst 1, 1), (.iload_n 2, 1), (.ishl, 1)] := zdcA_ok (by decide +kernel)
theorem dX7_next_0 : decode cX7_next 0 = .ok (.iconst 0, 1) := dX7_next_r0.1
theorem dX7_next_1 : decode cX7_next 1 = .ok (.istore_n 1, 1) := dX7_next_r0.2.1
theorem dX7_next_2 : decode cX7_next 2 = .ok (.iconst 0, 1) := dX7_next_r0.2.2.1
theorem dX7_next_3 : decode cX7_next 3 = .ok (.istore_n 2, 1) := dX7_next_r0.2.2.2.1
theorem dX7_next_4 : decode cX7_next 4 = .ok (.iload_n 2, 1) := dX7_next_r0.2.2.2.2.1
theorem dX7_next_5 : decode cX7_next 5 = .ok (.bipush 10, 2) := dX7_next_r0.2.2.2.2.2.1
theorem dX7_next_7 : decode cX7_next 7 = .ok (.if_icmp .ge 26, 3) := dX7_next_r0.2.2.2.2.2.2.1
theorem dX7_next_10 : decode cX7_next 10 = .ok (.aload_n 0, 1) := dX7_next_r0.2.2.2.2.2.2.2.1
theorem dX7_next_11 : decode cX7_next 11 = .ok (.getfield 23, 3) := dX7_next_r0.2.2.2.2.2.2.2.2.1
theorem dX7_next_14 : decode cX7_next 14 = .ok (.iload_n 2, 1) := dX7_next_r0.2.2.2.2.2.2.2.2.2.1
theorem dX7_next_15 : decode cX7_next 15 = .ok (.invokevirtual 208, 3) := dX7_next_r0.2.2.2.2.2.2.2.2.2.2.1
theorem dX7_next_18 : decode cX7_next 18 = .ok (.ifCond .eq 9, 3) := dX7_next_r0.2.2.2.2.2.2.2.2.2.2.2.1
theorem dX7_next_21 : decode cX7_next 21 = .ok (.iload_n 1, 1) := dX7_next_r0.2.2.2.2.2.2.2.2.2.2.2.2.1
theorem dX7_next_22 : decode cX7_next 22 = .ok (.iconst 1, 1) := dX7_next_r0.2.2.2.2.2.2.2.2.2.2.2.2.2.1
theorem dX7_next_23 : decode cX7_next 23 = .ok (.iload_n 2, 1) := dX7_next_r0.2.2.2.2.2.2.2.2.2.2.2.2.2.2.1
theorem dX7_next_24 : decode cX7_next 24 = .ok (.ishl, 1) := dX7_next_r0.2.2.2.2.2.2.2.2.2.2.2.2.2.2.2.1
theorem dX7_next_r25 : zdcP cX7_next 25 [(.ior, 1), (.istore_n 1, 1), (.iinc 2 1, 3), (.goto (-26), 3), (.iload_n 1, 1), (.ireturn, 1)] := zdcA_ok (by decide +kernel)
theorem dX7_next_25 : decode cX7_next 25 = .ok (.ior, 1) := dX7_next_r25.1
theorem dX7_next_26 : decode cX7_next 26 = .ok (.istore_n 1, 1) := dX7_next_r25.2.1
theorem dX7_next_27 : decode cX7_next 27 = .ok (.iinc 2 1, 3) := dX7_next_r25.2.2.1
theorem dX7_next_30 : decode cX7_next 30 = .ok (.goto (-26), 3) := dX7_next_r25.2.2.2.1
theorem dX7_next_33 : decode cX7_next 33 = .ok (.iload_n 1, 1) := dX7_next_r25.2.2.2.2.1
theorem dX7_next_34 : decode cX7_next 34 = .ok (.ireturn, 1) := dX7_next_r25.2.2.2.2.2.1
def wq_86_4 (Q : Int32 → zf_Me → Prop) : Nat → Int32 → Int32 → zf_Me → Prop
  | 0, _, _, _ => False
  | n + 1, v1, v2, m => ((v2.toInt ≥ 10 → Q v1 m) ∧ (v2.toInt < 10 → wp_52 2 3 8 v2 m (fun b1 m2 => ((b1 = false → wq_86_4 Q n v1 (v2 + 1) m2) ∧ (b1 = true → wq_86_4 Q n (v1 ||| (1 <<< (v2 &&& 31))) (v2 + 1) m2)))))
theorem zq_86_4 {d : Nat} (hd : 3 ≤ d) {Q : Int32 → zf_Me → Prop} : ∀ (n : Nat) (v1 : Int32) (v2 : Int32) (m : zf_Me), wq_86_4 Q n v1 v2 m → zf_W none 0 0 d zt_86 4 [some (.inr (.inr (1, 0))), some (.inl v1), some (.inl v2)] [] m (zf_I Q) := by
  obtain ⟨e, rfl⟩ : ∃ z, d = z + 1 := ⟨d - 1, by omega⟩
  intro n
  induction n with
  | zero =>
    intro v1 v2 m h
    exact h.elim
  | succ n ih =>
    intro v1 v2 m h
    unfold wq_86_4 at h
    refine zf_ld (pc' := 5) (v := .inl v2) dX7_next_4 rfl (fun _ _ _ => rfl) rfl rfl rfl ?_
    refine zf_bi (v := 10) (pc' := 7) dX7_next_5 rfl rfl ?_
    refine zf_icmp_ge (tgt := 33) (pc' := 10) dX7_next_7 rfl rfl (fun g => ?_) (fun g => ?_)
    · replace h := h.1 g
      refine zf_ld (pc' := 34) (v := .inl v1) dX7_next_33 rfl (fun _ _ _ => rfl) rfl rfl rfl ?_
      exact zf_ri dX7_next_34 rfl h
    · replace h := h.2 g
      refine zf_ld (pc' := 11) (v := .inr (.inr (1, 0))) dX7_next_10 rfl (fun _ _ _ => rfl) rfl rfl rfl ?_
      refine zf_gfr (pc' := 14) (b := 2) dX7_next_11 rfl rfl (by decide) rfl rfl ?_
      refine zf_ld (pc' := 15) (v := .inl v2) dX7_next_14 rfl (fun _ _ _ => rfl) rfl rfl rfl ?_
      refine zf_iv (k := 52) (pc' := 18) (r := []) dX7_next_15 rfl rfl rfl rfl zf_walk2.1 zf_walk2.2.1 rfl rfl (zr_52 (by omega) zf_walk2 h) (zf_kB (fun b1 m2 h => ?_))
      refine zf_ib_eq (tgt := 27) (pc' := 21) dX7_next_18 rfl rfl (fun g => ?_) (fun g => ?_)
      · replace h := h.1 g
        refine zf_ii (y := (v2 + 1)) (L2 := [some (.inr (.inr (1, 0))), some (.inl v1), some (.inl (v2 + 1))]) (pc' := 30) dX7_next_27 rfl rfl rfl rfl rfl ?_
        refine zf_goto (tgt := 4) dX7_next_30 rfl ?_
        exact zf_lo (ih _ _ _ h) ⟨rfl, rfl, rfl, trivial⟩
      · replace h := h.2 g
        refine zf_ld (pc' := 22) (v := .inl v1) dX7_next_21 rfl (fun _ _ _ => rfl) rfl rfl rfl ?_
        refine zf_ic (v := 1) (pc' := 23) dX7_next_22 rfl rfl ?_
        refine zf_ld (pc' := 24) (v := .inl v2) dX7_next_23 rfl (fun _ _ _ => rfl) rfl rfl rfl ?_
        refine zf_in (pc' := 25) (S' := [.inl (1 <<< (v2 &&& 31)), .inl v1]) dX7_next_24 rfl (fun _ _ _ => rfl) ?_
        refine zf_in (pc' := 26) (S' := [.inl (v1 ||| (1 <<< (v2 &&& 31)))]) dX7_next_25 rfl (fun _ _ _ => rfl) ?_
        refine zf_st (pc' := 27) (L2 := [some (.inr (.inr (1, 0))), some (.inl (v1 ||| (1 <<< (v2 &&& 31)))), some (.inl v2)]) dX7_next_26 rfl (fun _ _ _ => rfl) rfl rfl rfl rfl rfl rfl ?_
        refine zf_ii (y := (v2 + 1)) (L2 := [some (.inr (.inr (1, 0))), some (.inl (v1 ||| (1 <<< (v2 &&& 31)))), some (.inl (v2 + 1))]) (pc' := 30) dX7_next_27 rfl rfl rfl rfl rfl ?_
        refine zf_goto (tgt := 4) dX7_next_30 rfl ?_
        exact zf_lo (ih _ _ _ h) ⟨rfl, rfl, rfl, trivial⟩
def wp_86 (m : zf_Me) (Q : Int32 → zf_Me → Prop) : Prop := (∃ n4, wq_86_4 Q n4 0 0 m)
theorem zr_86 {d : Nat} (hd : 3 ≤ d) {Q : Int32 → zf_Me → Prop} {m : zf_Me} (h : wp_86 m Q) : zf_M d 86 [.inr (.inr (1, 0))] m (zf_I Q) := by
  unfold wp_86 at h
  refine zf_M_of (Nat.le_of_ble_eq_true rfl) zm_86 (L := [some (.inr (.inr (1, 0))), none, none]) rfl ?_
  refine zf_ic (v := 0) (pc' := 1) dX7_next_0 rfl rfl ?_
  refine zf_st (pc' := 2) (L2 := [some (.inr (.inr (1, 0))), some (.inl 0), none]) dX7_next_1 rfl (fun _ _ _ => rfl) rfl rfl rfl rfl rfl rfl ?_
  refine zf_ic (v := 0) (pc' := 3) dX7_next_2 rfl rfl ?_
  refine zf_st (pc' := 4) (L2 := [some (.inr (.inr (1, 0))), some (.inl 0), some (.inl 0)]) dX7_next_3 rfl (fun _ _ _ => rfl) rfl rfl rfl rfl rfl rfl ?_
  obtain ⟨n4, h⟩ := h
  exact zf_lo (zq_86_4 (by omega) n4 _ _ _ h) ⟨rfl, rfl, rfl, trivial⟩
def zt_87 : zx_MT := (7, yX7_ahead, cX7_ahead, 3, (some FieldType.int), 2, 0)
theorem zm_87 : zx_m 87 = zt_87 := rfl
theorem dX7_ahead_r0 : zdcP cX7_ahead 0 [(.iload_n 2, 1), (.iconst (-1), 1), (.if_icmp .lt 9, 3), (.iload_n 2, 1), (.bipush 6, 2), (.if_icmp .le 9, 3), (.aload_n 0, 1), (.iconst 5, 1), (.invokevirtual 82, 3), (.ireturn, 1), (.iload_n 1, 1), (.iconst 1, 1), (.if_icmp .lt 8, 3), (.iload_n 1, 1), (.iconst 4, 1), (.if_icmp .le 10, 3)] := zdcA_ok (by decide +kernel)
theorem dX7_ahead_0 : decode cX7_ahead 0 = .ok (.iload_n 2, 1) := dX7_ahead_r0.1
theorem dX7_ahead_1 : decode cX7_ahead 1 = .ok (.iconst (-1), 1) := dX7_ahead_r0.2.1
theorem dX7_ahead_2 : decode cX7_ahead 2 = .ok (.if_icmp .lt 9, 3) := dX7_ahead_r0.2.2.1
theorem dX7_ahead_5 : decode cX7_ahead 5 = .ok (.iload_n 2, 1) := dX7_ahead_r0.2.2.2.1
theorem dX7_ahead_6 : decode cX7_ahead 6 = .ok (.bipush 6, 2) := dX7_ahead_r0.2.2.2.2.1
theorem dX7_ahead_8 : decode cX7_ahead 8 = .ok (.if_icmp .le 9, 3) := dX7_ahead_r0.2.2.2.2.2.1
theorem dX7_ahead_11 : decode cX7_ahead 11 = .ok (.aload_n 0, 1) := dX7_ahead_r0.2.2.2.2.2.2.1
theorem dX7_ahead_12 : decode cX7_ahead 12 = .ok (.iconst 5, 1) := dX7_ahead_r0.2.2.2.2.2.2.2.1
theorem dX7_ahead_13 : decode cX7_ahead 13 = .ok (.invokevirtual 82, 3) := dX7_ahead_r0.2.2.2.2.2.2.2.2.1
theorem dX7_ahead_16 : decode cX7_ahead 16 = .ok (.ireturn, 1) := dX7_ahead_r0.2.2.2.2.2.2.2.2.2.1
theorem dX7_ahead_17 : decode cX7_ahead 17 = .ok (.iload_n 1, 1) := dX7_ahead_r0.2.2.2.2.2.2.2.2.2.2.1
theorem dX7_ahead_18 : decode cX7_ahead 18 = .ok (.iconst 1, 1) := dX7_ahead_r0.2.2.2.2.2.2.2.2.2.2.2.1
theorem dX7_ahead_19 : decode cX7_ahead 19 = .ok (.if_icmp .lt 8, 3) := dX7_ahead_r0.2.2.2.2.2.2.2.2.2.2.2.2.1
theorem dX7_ahead_22 : decode cX7_ahead 22 = .ok (.iload_n 1, 1) := dX7_ahead_r0.2.2.2.2.2.2.2.2.2.2.2.2.2.1
theorem dX7_ahead_23 : decode cX7_ahead 23 = .ok (.iconst 4, 1) := dX7_ahead_r0.2.2.2.2.2.2.2.2.2.2.2.2.2.2.1
theorem dX7_ahead_24 : decode cX7_ahead 24 = .ok (.if_icmp .le 10, 3) := dX7_ahead_r0.2.2.2.2.2.2.2.2.2.2.2.2.2.2.2.1
theorem dX7_ahead_r27 : zdcP cX7_ahead 27 [(.aload_n 0, 1), (.bipush 6, 2), (.invokevirtual 82, 3), (.ireturn, 1), (.aload_n 0, 1), (.getfield 47, 3), (.aload_n 0, 1), (.getfield 23, 3), (.iload_n 1, 1), (.invokevirtual 211, 3), (.iload_n 2, 1)] := zdcA_ok (by decide +kernel)
theorem dX7_ahead_27 : decode cX7_ahead 27 = .ok (.aload_n 0, 1) := dX7_ahead_r27.1
theorem dX7_ahead_28 : decode cX7_ahead 28 = .ok (.bipush 6, 2) := dX7_ahead_r27.2.1
theorem dX7_ahead_30 : decode cX7_ahead 30 = .ok (.invokevirtual 82, 3) := dX7_ahead_r27.2.2.1
theorem dX7_ahead_33 : decode cX7_ahead 33 = .ok (.ireturn, 1) := dX7_ahead_r27.2.2.2.1
theorem dX7_ahead_34 : decode cX7_ahead 34 = .ok (.aload_n 0, 1) := dX7_ahead_r27.2.2.2.2.1
theorem dX7_ahead_35 : decode cX7_ahead 35 = .ok (.getfield 47, 3) := dX7_ahead_r27.2.2.2.2.2.1
theorem dX7_ahead_38 : decode cX7_ahead 38 = .ok (.aload_n 0, 1) := dX7_ahead_r27.2.2.2.2.2.2.1
theorem dX7_ahead_39 : decode cX7_ahead 39 = .ok (.getfield 23, 3) := dX7_ahead_r27.2.2.2.2.2.2.2.1
theorem dX7_ahead_42 : decode cX7_ahead 42 = .ok (.iload_n 1, 1) := dX7_ahead_r27.2.2.2.2.2.2.2.2.1
theorem dX7_ahead_43 : decode cX7_ahead 43 = .ok (.invokevirtual 211, 3) := dX7_ahead_r27.2.2.2.2.2.2.2.2.2.1
theorem dX7_ahead_46 : decode cX7_ahead 46 = .ok (.iload_n 2, 1) := dX7_ahead_r27.2.2.2.2.2.2.2.2.2.2.1
theorem dX7_ahead_47 : decode cX7_ahead 47 = .ok (.tableswitch 93 (-1) 6 #[45, 93, 93, 93, 93, 53, 69, 77], 45) := by decide +kernel
theorem dX7_ahead_r92 : zdcP cX7_ahead 92 [(.aload_n 0, 1), (.getfield 47, 3), (.getfield 215, 3), (.ireturn, 1), (.aload_n 0, 1), (.getfield 47, 3), (.getfield 218, 3), (.aload_n 0, 1), (.getfield 23, 3), (.getfield 221, 3), (.isub, 1), (.ireturn, 1), (.aload_n 0, 1), (.getfield 47, 3), (.getfield 224, 3), (.ireturn, 1)] := zdcA_ok (by decide +kernel)
theorem dX7_ahead_92 : decode cX7_ahead 92 = .ok (.aload_n 0, 1) := dX7_ahead_r92.1
theorem dX7_ahead_93 : decode cX7_ahead 93 = .ok (.getfield 47, 3) := dX7_ahead_r92.2.1
theorem dX7_ahead_96 : decode cX7_ahead 96 = .ok (.getfield 215, 3) := dX7_ahead_r92.2.2.1
theorem dX7_ahead_99 : decode cX7_ahead 99 = .ok (.ireturn, 1) := dX7_ahead_r92.2.2.2.1
theorem dX7_ahead_100 : decode cX7_ahead 100 = .ok (.aload_n 0, 1) := dX7_ahead_r92.2.2.2.2.1
theorem dX7_ahead_101 : decode cX7_ahead 101 = .ok (.getfield 47, 3) := dX7_ahead_r92.2.2.2.2.2.1
theorem dX7_ahead_104 : decode cX7_ahead 104 = .ok (.getfield 218, 3) := dX7_ahead_r92.2.2.2.2.2.2.1
theorem dX7_ahead_107 : decode cX7_ahead 107 = .ok (.aload_n 0, 1) := dX7_ahead_r92.2.2.2.2.2.2.2.1
theorem dX7_ahead_108 : decode cX7_ahead 108 = .ok (.getfield 23, 3) := dX7_ahead_r92.2.2.2.2.2.2.2.2.1
theorem dX7_ahead_111 : decode cX7_ahead 111 = .ok (.getfield 221, 3) := dX7_ahead_r92.2.2.2.2.2.2.2.2.2.1
theorem dX7_ahead_114 : decode cX7_ahead 114 = .ok (.isub, 1) := dX7_ahead_r92.2.2.2.2.2.2.2.2.2.2.1
theorem dX7_ahead_115 : decode cX7_ahead 115 = .ok (.ireturn, 1) := dX7_ahead_r92.2.2.2.2.2.2.2.2.2.2.2.1
theorem dX7_ahead_116 : decode cX7_ahead 116 = .ok (.aload_n 0, 1) := dX7_ahead_r92.2.2.2.2.2.2.2.2.2.2.2.2.1
theorem dX7_ahead_117 : decode cX7_ahead 117 = .ok (.getfield 47, 3) := dX7_ahead_r92.2.2.2.2.2.2.2.2.2.2.2.2.2.1
theorem dX7_ahead_120 : decode cX7_ahead 120 = .ok (.getfield 224, 3) := dX7_ahead_r92.2.2.2.2.2.2.2.2.2.2.2.2.2.2.1
theorem dX7_ahead_123 : decode cX7_ahead 123 = .ok (.ireturn, 1) := dX7_ahead_r92.2.2.2.2.2.2.2.2.2.2.2.2.2.2.2.1
theorem dX7_ahead_r124 : zdcP cX7_ahead 124 [(.aload_n 0, 1), (.getfield 47, 3), (.getfield 227, 3), (.aload_n 0, 1), (.getfield 23, 3), (.getfield 230, 3), (.isub, 1), (.ireturn, 1), (.iload_n 2, 1), (.aload_n 0, 1), (.getfield 47, 3), (.getfield 215, 3), (.if_icmp .ge 15, 3), (.aload_n 0, 1), (.getfield 47, 3), (.getfield 233, 3)] := zdcA_ok (by decide +kernel)
theorem dX7_ahead_124 : decode cX7_ahead 124 = .ok (.aload_n 0, 1) := dX7_ahead_r124.1
theorem dX7_ahead_125 : decode cX7_ahead 125 = .ok (.getfield 47, 3) := dX7_ahead_r124.2.1
theorem dX7_ahead_128 : decode cX7_ahead 128 = .ok (.getfield 227, 3) := dX7_ahead_r124.2.2.1
theorem dX7_ahead_131 : decode cX7_ahead 131 = .ok (.aload_n 0, 1) := dX7_ahead_r124.2.2.2.1
theorem dX7_ahead_132 : decode cX7_ahead 132 = .ok (.getfield 23, 3) := dX7_ahead_r124.2.2.2.2.1
theorem dX7_ahead_135 : decode cX7_ahead 135 = .ok (.getfield 230, 3) := dX7_ahead_r124.2.2.2.2.2.1
theorem dX7_ahead_138 : decode cX7_ahead 138 = .ok (.isub, 1) := dX7_ahead_r124.2.2.2.2.2.2.1
theorem dX7_ahead_139 : decode cX7_ahead 139 = .ok (.ireturn, 1) := dX7_ahead_r124.2.2.2.2.2.2.2.1
theorem dX7_ahead_140 : decode cX7_ahead 140 = .ok (.iload_n 2, 1) := dX7_ahead_r124.2.2.2.2.2.2.2.2.1
theorem dX7_ahead_141 : decode cX7_ahead 141 = .ok (.aload_n 0, 1) := dX7_ahead_r124.2.2.2.2.2.2.2.2.2.1
theorem dX7_ahead_142 : decode cX7_ahead 142 = .ok (.getfield 47, 3) := dX7_ahead_r124.2.2.2.2.2.2.2.2.2.2.1
theorem dX7_ahead_145 : decode cX7_ahead 145 = .ok (.getfield 215, 3) := dX7_ahead_r124.2.2.2.2.2.2.2.2.2.2.2.1
theorem dX7_ahead_148 : decode cX7_ahead 148 = .ok (.if_icmp .ge 15, 3) := dX7_ahead_r124.2.2.2.2.2.2.2.2.2.2.2.2.1
theorem dX7_ahead_151 : decode cX7_ahead 151 = .ok (.aload_n 0, 1) := dX7_ahead_r124.2.2.2.2.2.2.2.2.2.2.2.2.2.1
theorem dX7_ahead_152 : decode cX7_ahead 152 = .ok (.getfield 47, 3) := dX7_ahead_r124.2.2.2.2.2.2.2.2.2.2.2.2.2.2.1
theorem dX7_ahead_155 : decode cX7_ahead 155 = .ok (.getfield 233, 3) := dX7_ahead_r124.2.2.2.2.2.2.2.2.2.2.2.2.2.2.2.1
theorem dX7_ahead_r158 : zdcP cX7_ahead 158 [(.iload_n 2, 1), (.iaload, 1), (.goto 8, 3), (.aload_n 0, 1), (.iconst 5, 1), (.invokevirtual 82, 3), (.ireturn, 1)] := zdcA_ok (by decide +kernel)
theorem dX7_ahead_158 : decode cX7_ahead 158 = .ok (.iload_n 2, 1) := dX7_ahead_r158.1
theorem dX7_ahead_159 : decode cX7_ahead 159 = .ok (.iaload, 1) := dX7_ahead_r158.2.1
theorem dX7_ahead_160 : decode cX7_ahead 160 = .ok (.goto 8, 3) := dX7_ahead_r158.2.2.1
theorem dX7_ahead_163 : decode cX7_ahead 163 = .ok (.aload_n 0, 1) := dX7_ahead_r158.2.2.2.1
theorem dX7_ahead_164 : decode cX7_ahead 164 = .ok (.iconst 5, 1) := dX7_ahead_r158.2.2.2.2.1
theorem dX7_ahead_165 : decode cX7_ahead 165 = .ok (.invokevirtual 82, 3) := dX7_ahead_r158.2.2.2.2.2.1
theorem dX7_ahead_168 : decode cX7_ahead 168 = .ok (.ireturn, 1) := dX7_ahead_r158.2.2.2.2.2.2.1
def wp_87 (v1 : Int32) (v2 : Int32) (m : zf_Me) (Q : Int32 → zf_Me → Prop) : Prop := ((v2.toInt < (-1) → wp_109 5 m (fun x1 m2 => Q x1 m2)) ∧ (v2.toInt ≥ (-1) → ((v2.toInt ≤ 6 → ((v1.toInt < 1 → wp_109 6 m (fun x3 m4 => Q x3 m4)) ∧ (v1.toInt ≥ 1 → ((v1.toInt ≤ 4 → wp_14 2 3 8 v1 m (fun m6 => (((v2.toInt < (-1) ∨ v2.toInt > 6) → ((v2.toInt ≥ ((m6.1 21 4)).toInt → wp_109 5 m6 (fun x7 m8 => Q x7 m8)) ∧ (v2.toInt < ((m6.1 21 4)).toInt → ((0 ≤ (Int32.toInt v2) ∧ (Int32.toInt v2) < (4 : Int)) ∧ Q (m6.1 24 (Int32.toInt v2).toNat) m6)))) ∧ (v2.toInt = (-1) → Q (m6.1 21 4) m6) ∧ (v2.toInt = 0 → ((v2.toInt ≥ ((m6.1 21 4)).toInt → wp_109 5 m6 (fun x9 m10 => Q x9 m10)) ∧ (v2.toInt < ((m6.1 21 4)).toInt → ((0 ≤ (Int32.toInt v2) ∧ (Int32.toInt v2) < (4 : Int)) ∧ Q (m6.1 24 (Int32.toInt v2).toNat) m6)))) ∧ (v2.toInt = 1 → ((v2.toInt ≥ ((m6.1 21 4)).toInt → wp_109 5 m6 (fun x11 m12 => Q x11 m12)) ∧ (v2.toInt < ((m6.1 21 4)).toInt → ((0 ≤ (Int32.toInt v2) ∧ (Int32.toInt v2) < (4 : Int)) ∧ Q (m6.1 24 (Int32.toInt v2).toNat) m6)))) ∧ (v2.toInt = 2 → ((v2.toInt ≥ ((m6.1 21 4)).toInt → wp_109 5 m6 (fun x13 m14 => Q x13 m14)) ∧ (v2.toInt < ((m6.1 21 4)).toInt → ((0 ≤ (Int32.toInt v2) ∧ (Int32.toInt v2) < (4 : Int)) ∧ Q (m6.1 24 (Int32.toInt v2).toNat) m6)))) ∧ (v2.toInt = 3 → ((v2.toInt ≥ ((m6.1 21 4)).toInt → wp_109 5 m6 (fun x15 m16 => Q x15 m16)) ∧ (v2.toInt < ((m6.1 21 4)).toInt → ((0 ≤ (Int32.toInt v2) ∧ (Int32.toInt v2) < (4 : Int)) ∧ Q (m6.1 24 (Int32.toInt v2).toNat) m6)))) ∧ (v2.toInt = 4 → Q ((m6.1 21 5) - (m6.1 2 10)) m6) ∧ (v2.toInt = 5 → Q (m6.1 21 6) m6) ∧ (v2.toInt = 6 → Q ((m6.1 21 7) - (m6.1 2 11)) m6)))) ∧ (v1.toInt > 4 → wp_109 6 m (fun x17 m18 => Q x17 m18)))))) ∧ (v2.toInt > 6 → wp_109 5 m (fun x19 m20 => Q x19 m20)))))
theorem zr_87 {d : Nat} (hd : 14 ≤ d) {v1 : Int32} {v2 : Int32} {Q : Int32 → zf_Me → Prop} {m : zf_Me} (h : wp_87 v1 v2 m Q) : zf_M d 87 [.inr (.inr (1, 0)), .inl v1, .inl v2] m (zf_I Q) := by
  obtain ⟨e, rfl⟩ : ∃ z, d = z + 1 := ⟨d - 1, by omega⟩
  unfold wp_87 at h
  refine zf_M_of (Nat.le_of_ble_eq_true rfl) zm_87 (L := [some (.inr (.inr (1, 0))), some (.inl v1), some (.inl v2)]) rfl ?_
  refine zf_ld (pc' := 1) (v := .inl v2) dX7_ahead_0 rfl (fun _ _ _ => rfl) rfl rfl rfl ?_
  refine zf_ic (v := (-1)) (pc' := 2) dX7_ahead_1 rfl rfl ?_
  refine zf_icmp_lt (tgt := 11) (pc' := 5) dX7_ahead_2 rfl rfl (fun g => ?_) (fun g => ?_)
  · replace h := h.1 g
    refine zf_ld (pc' := 12) (v := .inr (.inr (1, 0))) dX7_ahead_11 rfl (fun _ _ _ => rfl) rfl rfl rfl ?_
    refine zf_ic (v := 5) (pc' := 13) dX7_ahead_12 rfl rfl ?_
    refine zf_iv (k := 109) (pc' := 16) (r := []) dX7_ahead_13 rfl rfl rfl rfl (by decide) rfl rfl rfl (zr_109 (by omega) h) (zf_kI (fun x1 m2 h => ?_))
    exact zf_ri dX7_ahead_16 rfl h
  · replace h := h.2 g
    refine zf_ld (pc' := 6) (v := .inl v2) dX7_ahead_5 rfl (fun _ _ _ => rfl) rfl rfl rfl ?_
    refine zf_bi (v := 6) (pc' := 8) dX7_ahead_6 rfl rfl ?_
    refine zf_icmp_le (tgt := 17) (pc' := 11) dX7_ahead_8 rfl rfl (fun g => ?_) (fun g => ?_)
    · replace h := h.1 g
      refine zf_ld (pc' := 18) (v := .inl v1) dX7_ahead_17 rfl (fun _ _ _ => rfl) rfl rfl rfl ?_
      refine zf_ic (v := 1) (pc' := 19) dX7_ahead_18 rfl rfl ?_
      refine zf_icmp_lt (tgt := 27) (pc' := 22) dX7_ahead_19 rfl rfl (fun g => ?_) (fun g => ?_)
      · replace h := h.1 g
        refine zf_ld (pc' := 28) (v := .inr (.inr (1, 0))) dX7_ahead_27 rfl (fun _ _ _ => rfl) rfl rfl rfl ?_
        refine zf_bi (v := 6) (pc' := 30) dX7_ahead_28 rfl rfl ?_
        refine zf_iv (k := 109) (pc' := 33) (r := []) dX7_ahead_30 rfl rfl rfl rfl (by decide) rfl rfl rfl (zr_109 (by omega) h) (zf_kI (fun x3 m4 h => ?_))
        exact zf_ri dX7_ahead_33 rfl h
      · replace h := h.2 g
        refine zf_ld (pc' := 23) (v := .inl v1) dX7_ahead_22 rfl (fun _ _ _ => rfl) rfl rfl rfl ?_
        refine zf_ic (v := 4) (pc' := 24) dX7_ahead_23 rfl rfl ?_
        refine zf_icmp_le (tgt := 34) (pc' := 27) dX7_ahead_24 rfl rfl (fun g => ?_) (fun g => ?_)
        · replace h := h.1 g
          refine zf_ld (pc' := 35) (v := .inr (.inr (1, 0))) dX7_ahead_34 rfl (fun _ _ _ => rfl) rfl rfl rfl ?_
          refine zf_gfr (pc' := 38) (b := 21) dX7_ahead_35 rfl rfl (by decide) rfl rfl ?_
          refine zf_ld (pc' := 39) (v := .inr (.inr (1, 0))) dX7_ahead_38 rfl (fun _ _ _ => rfl) rfl rfl rfl ?_
          refine zf_gfr (pc' := 42) (b := 2) dX7_ahead_39 rfl rfl (by decide) rfl rfl ?_
          refine zf_ld (pc' := 43) (v := .inl v1) dX7_ahead_42 rfl (fun _ _ _ => rfl) rfl rfl rfl ?_
          refine zf_iv (k := 14) (pc' := 46) (r := []) dX7_ahead_43 rfl rfl rfl rfl (by decide) rfl rfl rfl (zr_14 (by omega) zf_walk2 h) (zf_kO (fun m6 h => ?_))
          refine zf_ld (pc' := 47) (v := .inl v2) dX7_ahead_46 rfl (fun _ _ _ => rfl) rfl rfl rfl ?_
          refine zf_tsc (tgd := 140) dX7_ahead_47 rfl [92, 140, 140, 140, 140, 100, 116, 124] (by decide) (by decide) (fun g => ?_) (zl_cons (fun g => ?_) (zl_cons (fun g => ?_) (zl_cons (fun g => ?_) (zl_cons (fun g => ?_) (zl_cons (fun g => ?_) (zl_cons (fun g => ?_) (zl_cons (fun g => ?_) (zl_cons (fun g => ?_) (zl_nil)))))))))
          · replace h := h.1 (by omega)
            refine zf_ld (pc' := 141) (v := .inl v2) dX7_ahead_140 rfl (fun _ _ _ => rfl) rfl rfl rfl ?_
            refine zf_ld (pc' := 142) (v := .inr (.inr (1, 0))) dX7_ahead_141 rfl (fun _ _ _ => rfl) rfl rfl rfl ?_
            refine zf_gfr (pc' := 145) (b := 21) dX7_ahead_142 rfl rfl (by decide) rfl rfl ?_
            refine zf_gfi (pc' := 148) dX7_ahead_145 rfl rfl (by decide) rfl rfl ?_
            refine zf_icmp_ge (tgt := 163) (pc' := 151) dX7_ahead_148 rfl rfl (fun g => ?_) (fun g => ?_)
            · replace h := h.1 g
              refine zf_ld (pc' := 164) (v := .inr (.inr (1, 0))) dX7_ahead_163 rfl (fun _ _ _ => rfl) rfl rfl rfl ?_
              refine zf_ic (v := 5) (pc' := 165) dX7_ahead_164 rfl rfl ?_
              refine zf_iv (k := 109) (pc' := 168) (r := []) dX7_ahead_165 rfl rfl rfl rfl (by decide) rfl rfl rfl (zr_109 (by omega) h) (zf_kI (fun x7 m8 h => ?_))
              exact zf_ri dX7_ahead_168 rfl h
            · replace h := h.2 g
              refine zf_ld (pc' := 152) (v := .inr (.inr (1, 0))) dX7_ahead_151 rfl (fun _ _ _ => rfl) rfl rfl rfl ?_
              refine zf_gfr (pc' := 155) (b := 21) dX7_ahead_152 rfl rfl (by decide) rfl rfl ?_
              refine zf_gfr (pc' := 158) (b := 24) dX7_ahead_155 rfl rfl (by decide) rfl rfl ?_
              refine zf_ld (pc' := 159) (v := .inl v2) dX7_ahead_158 rfl (fun _ _ _ => rfl) rfl rfl rfl ?_
              refine zf_ial (pc' := 160) dX7_ahead_159 rfl (⟨by decide, rfl⟩ : zf_arr 24 4).1 (⟨by decide, rfl⟩ : zf_arr 24 4).2 h.1 rfl ?_
              replace h := h.2
              refine zf_goto (tgt := 168) dX7_ahead_160 rfl ?_
              exact zf_ri dX7_ahead_168 rfl h
          · replace h := h.2.1 (by omega)
            refine zf_ld (pc' := 93) (v := .inr (.inr (1, 0))) dX7_ahead_92 rfl (fun _ _ _ => rfl) rfl rfl rfl ?_
            refine zf_gfr (pc' := 96) (b := 21) dX7_ahead_93 rfl rfl (by decide) rfl rfl ?_
            refine zf_gfi (pc' := 99) dX7_ahead_96 rfl rfl (by decide) rfl rfl ?_
            exact zf_ri dX7_ahead_99 rfl h
          · replace h := h.2.2.1 (by omega)
            refine zf_ld (pc' := 141) (v := .inl v2) dX7_ahead_140 rfl (fun _ _ _ => rfl) rfl rfl rfl ?_
            refine zf_ld (pc' := 142) (v := .inr (.inr (1, 0))) dX7_ahead_141 rfl (fun _ _ _ => rfl) rfl rfl rfl ?_
            refine zf_gfr (pc' := 145) (b := 21) dX7_ahead_142 rfl rfl (by decide) rfl rfl ?_
            refine zf_gfi (pc' := 148) dX7_ahead_145 rfl rfl (by decide) rfl rfl ?_
            refine zf_icmp_ge (tgt := 163) (pc' := 151) dX7_ahead_148 rfl rfl (fun g => ?_) (fun g => ?_)
            · replace h := h.1 g
              refine zf_ld (pc' := 164) (v := .inr (.inr (1, 0))) dX7_ahead_163 rfl (fun _ _ _ => rfl) rfl rfl rfl ?_
              refine zf_ic (v := 5) (pc' := 165) dX7_ahead_164 rfl rfl ?_
              refine zf_iv (k := 109) (pc' := 168) (r := []) dX7_ahead_165 rfl rfl rfl rfl (by decide) rfl rfl rfl (zr_109 (by omega) h) (zf_kI (fun x9 m10 h => ?_))
              exact zf_ri dX7_ahead_168 rfl h
            · replace h := h.2 g
              refine zf_ld (pc' := 152) (v := .inr (.inr (1, 0))) dX7_ahead_151 rfl (fun _ _ _ => rfl) rfl rfl rfl ?_
              refine zf_gfr (pc' := 155) (b := 21) dX7_ahead_152 rfl rfl (by decide) rfl rfl ?_
              refine zf_gfr (pc' := 158) (b := 24) dX7_ahead_155 rfl rfl (by decide) rfl rfl ?_
              refine zf_ld (pc' := 159) (v := .inl v2) dX7_ahead_158 rfl (fun _ _ _ => rfl) rfl rfl rfl ?_
              refine zf_ial (pc' := 160) dX7_ahead_159 rfl (⟨by decide, rfl⟩ : zf_arr 24 4).1 (⟨by decide, rfl⟩ : zf_arr 24 4).2 h.1 rfl ?_
              replace h := h.2
              refine zf_goto (tgt := 168) dX7_ahead_160 rfl ?_
              exact zf_ri dX7_ahead_168 rfl h
          · replace h := h.2.2.2.1 (by omega)
            refine zf_ld (pc' := 141) (v := .inl v2) dX7_ahead_140 rfl (fun _ _ _ => rfl) rfl rfl rfl ?_
            refine zf_ld (pc' := 142) (v := .inr (.inr (1, 0))) dX7_ahead_141 rfl (fun _ _ _ => rfl) rfl rfl rfl ?_
            refine zf_gfr (pc' := 145) (b := 21) dX7_ahead_142 rfl rfl (by decide) rfl rfl ?_
            refine zf_gfi (pc' := 148) dX7_ahead_145 rfl rfl (by decide) rfl rfl ?_
            refine zf_icmp_ge (tgt := 163) (pc' := 151) dX7_ahead_148 rfl rfl (fun g => ?_) (fun g => ?_)
            · replace h := h.1 g
              refine zf_ld (pc' := 164) (v := .inr (.inr (1, 0))) dX7_ahead_163 rfl (fun _ _ _ => rfl) rfl rfl rfl ?_
              refine zf_ic (v := 5) (pc' := 165) dX7_ahead_164 rfl rfl ?_
              refine zf_iv (k := 109) (pc' := 168) (r := []) dX7_ahead_165 rfl rfl rfl rfl (by decide) rfl rfl rfl (zr_109 (by omega) h) (zf_kI (fun x11 m12 h => ?_))
              exact zf_ri dX7_ahead_168 rfl h
            · replace h := h.2 g
              refine zf_ld (pc' := 152) (v := .inr (.inr (1, 0))) dX7_ahead_151 rfl (fun _ _ _ => rfl) rfl rfl rfl ?_
              refine zf_gfr (pc' := 155) (b := 21) dX7_ahead_152 rfl rfl (by decide) rfl rfl ?_
              refine zf_gfr (pc' := 158) (b := 24) dX7_ahead_155 rfl rfl (by decide) rfl rfl ?_
              refine zf_ld (pc' := 159) (v := .inl v2) dX7_ahead_158 rfl (fun _ _ _ => rfl) rfl rfl rfl ?_
              refine zf_ial (pc' := 160) dX7_ahead_159 rfl (⟨by decide, rfl⟩ : zf_arr 24 4).1 (⟨by decide, rfl⟩ : zf_arr 24 4).2 h.1 rfl ?_
              replace h := h.2
              refine zf_goto (tgt := 168) dX7_ahead_160 rfl ?_
              exact zf_ri dX7_ahead_168 rfl h
          · replace h := h.2.2.2.2.1 (by omega)
            refine zf_ld (pc' := 141) (v := .inl v2) dX7_ahead_140 rfl (fun _ _ _ => rfl) rfl rfl rfl ?_
            refine zf_ld (pc' := 142) (v := .inr (.inr (1, 0))) dX7_ahead_141 rfl (fun _ _ _ => rfl) rfl rfl rfl ?_
            refine zf_gfr (pc' := 145) (b := 21) dX7_ahead_142 rfl rfl (by decide) rfl rfl ?_
            refine zf_gfi (pc' := 148) dX7_ahead_145 rfl rfl (by decide) rfl rfl ?_
            refine zf_icmp_ge (tgt := 163) (pc' := 151) dX7_ahead_148 rfl rfl (fun g => ?_) (fun g => ?_)
            · replace h := h.1 g
              refine zf_ld (pc' := 164) (v := .inr (.inr (1, 0))) dX7_ahead_163 rfl (fun _ _ _ => rfl) rfl rfl rfl ?_
              refine zf_ic (v := 5) (pc' := 165) dX7_ahead_164 rfl rfl ?_
              refine zf_iv (k := 109) (pc' := 168) (r := []) dX7_ahead_165 rfl rfl rfl rfl (by decide) rfl rfl rfl (zr_109 (by omega) h) (zf_kI (fun x13 m14 h => ?_))
              exact zf_ri dX7_ahead_168 rfl h
            · replace h := h.2 g
              refine zf_ld (pc' := 152) (v := .inr (.inr (1, 0))) dX7_ahead_151 rfl (fun _ _ _ => rfl) rfl rfl rfl ?_
              refine zf_gfr (pc' := 155) (b := 21) dX7_ahead_152 rfl rfl (by decide) rfl rfl ?_
              refine zf_gfr (pc' := 158) (b := 24) dX7_ahead_155 rfl rfl (by decide) rfl rfl ?_
              refine zf_ld (pc' := 159) (v := .inl v2) dX7_ahead_158 rfl (fun _ _ _ => rfl) rfl rfl rfl ?_
              refine zf_ial (pc' := 160) dX7_ahead_159 rfl (⟨by decide, rfl⟩ : zf_arr 24 4).1 (⟨by decide, rfl⟩ : zf_arr 24 4).2 h.1 rfl ?_
              replace h := h.2
              refine zf_goto (tgt := 168) dX7_ahead_160 rfl ?_
              exact zf_ri dX7_ahead_168 rfl h
          · replace h := h.2.2.2.2.2.1 (by omega)
            refine zf_ld (pc' := 141) (v := .inl v2) dX7_ahead_140 rfl (fun _ _ _ => rfl) rfl rfl rfl ?_
            refine zf_ld (pc' := 142) (v := .inr (.inr (1, 0))) dX7_ahead_141 rfl (fun _ _ _ => rfl) rfl rfl rfl ?_
            refine zf_gfr (pc' := 145) (b := 21) dX7_ahead_142 rfl rfl (by decide) rfl rfl ?_
            refine zf_gfi (pc' := 148) dX7_ahead_145 rfl rfl (by decide) rfl rfl ?_
            refine zf_icmp_ge (tgt := 163) (pc' := 151) dX7_ahead_148 rfl rfl (fun g => ?_) (fun g => ?_)
            · replace h := h.1 g
              refine zf_ld (pc' := 164) (v := .inr (.inr (1, 0))) dX7_ahead_163 rfl (fun _ _ _ => rfl) rfl rfl rfl ?_
              refine zf_ic (v := 5) (pc' := 165) dX7_ahead_164 rfl rfl ?_
              refine zf_iv (k := 109) (pc' := 168) (r := []) dX7_ahead_165 rfl rfl rfl rfl (by decide) rfl rfl rfl (zr_109 (by omega) h) (zf_kI (fun x15 m16 h => ?_))
              exact zf_ri dX7_ahead_168 rfl h
            · replace h := h.2 g
              refine zf_ld (pc' := 152) (v := .inr (.inr (1, 0))) dX7_ahead_151 rfl (fun _ _ _ => rfl) rfl rfl rfl ?_
              refine zf_gfr (pc' := 155) (b := 21) dX7_ahead_152 rfl rfl (by decide) rfl rfl ?_
              refine zf_gfr (pc' := 158) (b := 24) dX7_ahead_155 rfl rfl (by decide) rfl rfl ?_
              refine zf_ld (pc' := 159) (v := .inl v2) dX7_ahead_158 rfl (fun _ _ _ => rfl) rfl rfl rfl ?_
              refine zf_ial (pc' := 160) dX7_ahead_159 rfl (⟨by decide, rfl⟩ : zf_arr 24 4).1 (⟨by decide, rfl⟩ : zf_arr 24 4).2 h.1 rfl ?_
              replace h := h.2
              refine zf_goto (tgt := 168) dX7_ahead_160 rfl ?_
              exact zf_ri dX7_ahead_168 rfl h
          · replace h := h.2.2.2.2.2.2.1 (by omega)
            refine zf_ld (pc' := 101) (v := .inr (.inr (1, 0))) dX7_ahead_100 rfl (fun _ _ _ => rfl) rfl rfl rfl ?_
            refine zf_gfr (pc' := 104) (b := 21) dX7_ahead_101 rfl rfl (by decide) rfl rfl ?_
            refine zf_gfi (pc' := 107) dX7_ahead_104 rfl rfl (by decide) rfl rfl ?_
            refine zf_ld (pc' := 108) (v := .inr (.inr (1, 0))) dX7_ahead_107 rfl (fun _ _ _ => rfl) rfl rfl rfl ?_
            refine zf_gfr (pc' := 111) (b := 2) dX7_ahead_108 rfl rfl (by decide) rfl rfl ?_
            refine zf_gfi (pc' := 114) dX7_ahead_111 rfl rfl zf_walk2.1 zf_walk2.2.1 rfl ?_
            refine zf_in (pc' := 115) (S' := [.inl ((m6.1 21 5) - (m6.1 2 10))]) dX7_ahead_114 rfl (fun _ _ _ => rfl) ?_
            exact zf_ri dX7_ahead_115 rfl h
          · replace h := h.2.2.2.2.2.2.2.1 (by omega)
            refine zf_ld (pc' := 117) (v := .inr (.inr (1, 0))) dX7_ahead_116 rfl (fun _ _ _ => rfl) rfl rfl rfl ?_
            refine zf_gfr (pc' := 120) (b := 21) dX7_ahead_117 rfl rfl (by decide) rfl rfl ?_
            refine zf_gfi (pc' := 123) dX7_ahead_120 rfl rfl (by decide) rfl rfl ?_
            exact zf_ri dX7_ahead_123 rfl h
          · replace h := h.2.2.2.2.2.2.2.2 (by omega)
            refine zf_ld (pc' := 125) (v := .inr (.inr (1, 0))) dX7_ahead_124 rfl (fun _ _ _ => rfl) rfl rfl rfl ?_
            refine zf_gfr (pc' := 128) (b := 21) dX7_ahead_125 rfl rfl (by decide) rfl rfl ?_
            refine zf_gfi (pc' := 131) dX7_ahead_128 rfl rfl (by decide) rfl rfl ?_
            refine zf_ld (pc' := 132) (v := .inr (.inr (1, 0))) dX7_ahead_131 rfl (fun _ _ _ => rfl) rfl rfl rfl ?_
            refine zf_gfr (pc' := 135) (b := 2) dX7_ahead_132 rfl rfl (by decide) rfl rfl ?_
            refine zf_gfi (pc' := 138) dX7_ahead_135 rfl rfl zf_walk2.1 zf_walk2.2.1 rfl ?_
            refine zf_in (pc' := 139) (S' := [.inl ((m6.1 21 7) - (m6.1 2 11))]) dX7_ahead_138 rfl (fun _ _ _ => rfl) ?_
            exact zf_ri dX7_ahead_139 rfl h
        · replace h := h.2 g
          refine zf_ld (pc' := 28) (v := .inr (.inr (1, 0))) dX7_ahead_27 rfl (fun _ _ _ => rfl) rfl rfl rfl ?_
          refine zf_bi (v := 6) (pc' := 30) dX7_ahead_28 rfl rfl ?_
          refine zf_iv (k := 109) (pc' := 33) (r := []) dX7_ahead_30 rfl rfl rfl rfl (by decide) rfl rfl rfl (zr_109 (by omega) h) (zf_kI (fun x17 m18 h => ?_))
          exact zf_ri dX7_ahead_33 rfl h
    · replace h := h.2 g
      refine zf_ld (pc' := 12) (v := .inr (.inr (1, 0))) dX7_ahead_11 rfl (fun _ _ _ => rfl) rfl rfl rfl ?_
      refine zf_ic (v := 5) (pc' := 13) dX7_ahead_12 rfl rfl ?_
      refine zf_iv (k := 109) (pc' := 16) (r := []) dX7_ahead_13 rfl rfl rfl rfl (by decide) rfl rfl rfl (zr_109 (by omega) h) (zf_kI (fun x19 m20 h => ?_))
      exact zf_ri dX7_ahead_16 rfl h
def zt_116 : zx_MT := (7, yX7_isRule, cX7_isRule, 1, (some FieldType.boolean), 1, 1)
theorem zm_116 : zx_m 116 = zt_116 := rfl
theorem dX7_isRule_r0 : zdcP cX7_isRule 0 [(.iload_n 0, 1), (.ifCond .lt 12, 3), (.iload_n 0, 1), (.iconst 4, 1), (.if_icmp .ge 7, 3), (.iconst 1, 1), (.goto 4, 3), (.iconst 0, 1), (.ireturn, 1)] := zdcA_ok (by decide +kernel)
theorem dX7_isRule_0 : decode cX7_isRule 0 = .ok (.iload_n 0, 1) := dX7_isRule_r0.1
theorem dX7_isRule_1 : decode cX7_isRule 1 = .ok (.ifCond .lt 12, 3) := dX7_isRule_r0.2.1
theorem dX7_isRule_4 : decode cX7_isRule 4 = .ok (.iload_n 0, 1) := dX7_isRule_r0.2.2.1
theorem dX7_isRule_5 : decode cX7_isRule 5 = .ok (.iconst 4, 1) := dX7_isRule_r0.2.2.2.1
theorem dX7_isRule_6 : decode cX7_isRule 6 = .ok (.if_icmp .ge 7, 3) := dX7_isRule_r0.2.2.2.2.1
theorem dX7_isRule_9 : decode cX7_isRule 9 = .ok (.iconst 1, 1) := dX7_isRule_r0.2.2.2.2.2.1
theorem dX7_isRule_10 : decode cX7_isRule 10 = .ok (.goto 4, 3) := dX7_isRule_r0.2.2.2.2.2.2.1
theorem dX7_isRule_13 : decode cX7_isRule 13 = .ok (.iconst 0, 1) := dX7_isRule_r0.2.2.2.2.2.2.2.1
theorem dX7_isRule_14 : decode cX7_isRule 14 = .ok (.ireturn, 1) := dX7_isRule_r0.2.2.2.2.2.2.2.2.1
def wp_116 (v0 : Int32) (m : zf_Me) (Q : Bool → zf_Me → Prop) : Prop := ((v0.toInt < 0 → Q false m) ∧ (v0.toInt ≥ 0 → ((v0.toInt ≥ 4 → Q false m) ∧ (v0.toInt < 4 → Q true m))))
theorem zr_116 {d : Nat} (hd : 0 ≤ d) {v0 : Int32} {Q : Bool → zf_Me → Prop} {m : zf_Me} (h : wp_116 v0 m Q) : zf_M d 116 [.inl v0] m (zf_B Q) := by
  unfold wp_116 at h
  refine zf_M_of (Nat.le_of_ble_eq_true rfl) zm_116 (L := [some (.inl v0)]) rfl ?_
  refine zf_ld (pc' := 1) (v := .inl v0) dX7_isRule_0 rfl (fun _ _ _ => rfl) rfl rfl rfl ?_
  refine zf_if_lt (tgt := 13) (pc' := 4) dX7_isRule_1 rfl rfl (fun g => ?_) (fun g => ?_)
  · replace h := h.1 g
    refine zf_ic (v := 0) (pc' := 14) dX7_isRule_13 rfl rfl ?_
    exact zf_rb (b := false) dX7_isRule_14 rfl h
  · replace h := h.2 g
    refine zf_ld (pc' := 5) (v := .inl v0) dX7_isRule_4 rfl (fun _ _ _ => rfl) rfl rfl rfl ?_
    refine zf_ic (v := 4) (pc' := 6) dX7_isRule_5 rfl rfl ?_
    refine zf_icmp_ge (tgt := 13) (pc' := 9) dX7_isRule_6 rfl rfl (fun g => ?_) (fun g => ?_)
    · replace h := h.1 g
      refine zf_ic (v := 0) (pc' := 14) dX7_isRule_13 rfl rfl ?_
      exact zf_rb (b := false) dX7_isRule_14 rfl h
    · replace h := h.2 g
      refine zf_ic (v := 1) (pc' := 10) dX7_isRule_9 rfl rfl ?_
      refine zf_goto (tgt := 14) dX7_isRule_10 rfl ?_
      exact zf_rb (b := true) dX7_isRule_14 rfl h
def zt_88 : zx_MT := (7, yX7_by, cX7_by, 4, (some FieldType.int), 2, 0)
theorem zm_88 : zx_m 88 = zt_88 := rfl
theorem dX7_by_r0 : zdcP cX7_by 0 [(.iload_n 2, 1), (.bipush 10, 2), (.if_icmp .lt 24, 3), (.aload_n 0, 1), (.getfield 23, 3), (.getfield 30, 3), (.iload_n 2, 1), (.bipush 10, 2), (.isub, 1), (.invokevirtual 118, 3), (.ifCond .eq 7, 3), (.iconst 1, 1), (.goto 4, 3), (.iconst 0, 1), (.istore_n 3, 1), (.iload_n 3, 1)] := zdcA_ok (by decide +kernel)
theorem dX7_by_0 : decode cX7_by 0 = .ok (.iload_n 2, 1) := dX7_by_r0.1
theorem dX7_by_1 : decode cX7_by 1 = .ok (.bipush 10, 2) := dX7_by_r0.2.1
theorem dX7_by_3 : decode cX7_by 3 = .ok (.if_icmp .lt 24, 3) := dX7_by_r0.2.2.1
theorem dX7_by_6 : decode cX7_by 6 = .ok (.aload_n 0, 1) := dX7_by_r0.2.2.2.1
theorem dX7_by_7 : decode cX7_by 7 = .ok (.getfield 23, 3) := dX7_by_r0.2.2.2.2.1
theorem dX7_by_10 : decode cX7_by 10 = .ok (.getfield 30, 3) := dX7_by_r0.2.2.2.2.2.1
theorem dX7_by_13 : decode cX7_by 13 = .ok (.iload_n 2, 1) := dX7_by_r0.2.2.2.2.2.2.1
theorem dX7_by_14 : decode cX7_by 14 = .ok (.bipush 10, 2) := dX7_by_r0.2.2.2.2.2.2.2.1
theorem dX7_by_16 : decode cX7_by 16 = .ok (.isub, 1) := dX7_by_r0.2.2.2.2.2.2.2.2.1
theorem dX7_by_17 : decode cX7_by 17 = .ok (.invokevirtual 118, 3) := dX7_by_r0.2.2.2.2.2.2.2.2.2.1
theorem dX7_by_20 : decode cX7_by 20 = .ok (.ifCond .eq 7, 3) := dX7_by_r0.2.2.2.2.2.2.2.2.2.2.1
theorem dX7_by_23 : decode cX7_by 23 = .ok (.iconst 1, 1) := dX7_by_r0.2.2.2.2.2.2.2.2.2.2.2.1
theorem dX7_by_24 : decode cX7_by 24 = .ok (.goto 4, 3) := dX7_by_r0.2.2.2.2.2.2.2.2.2.2.2.2.1
theorem dX7_by_27 : decode cX7_by 27 = .ok (.iconst 0, 1) := dX7_by_r0.2.2.2.2.2.2.2.2.2.2.2.2.2.1
theorem dX7_by_28 : decode cX7_by 28 = .ok (.istore_n 3, 1) := dX7_by_r0.2.2.2.2.2.2.2.2.2.2.2.2.2.2.1
theorem dX7_by_29 : decode cX7_by 29 = .ok (.iload_n 3, 1) := dX7_by_r0.2.2.2.2.2.2.2.2.2.2.2.2.2.2.2.1
theorem dX7_by_r30 : zdcP cX7_by 30 [(.ifCond .ne 18, 3), (.iload_n 2, 1), (.ifCond .lt 8, 3), (.iload_n 2, 1), (.iconst 3, 1), (.if_icmp .le 9, 3), (.aload_n 0, 1), (.iconst 5, 1), (.invokevirtual 82, 3), (.ireturn, 1), (.iload_n 1, 1), (.invokestatic 236, 3), (.ifCond .ne 10, 3), (.aload_n 0, 1), (.bipush 6, 2), (.invokevirtual 82, 3)] := zdcA_ok (by decide +kernel)
theorem dX7_by_30 : decode cX7_by 30 = .ok (.ifCond .ne 18, 3) := dX7_by_r30.1
theorem dX7_by_33 : decode cX7_by 33 = .ok (.iload_n 2, 1) := dX7_by_r30.2.1
theorem dX7_by_34 : decode cX7_by 34 = .ok (.ifCond .lt 8, 3) := dX7_by_r30.2.2.1
theorem dX7_by_37 : decode cX7_by 37 = .ok (.iload_n 2, 1) := dX7_by_r30.2.2.2.1
theorem dX7_by_38 : decode cX7_by 38 = .ok (.iconst 3, 1) := dX7_by_r30.2.2.2.2.1
theorem dX7_by_39 : decode cX7_by 39 = .ok (.if_icmp .le 9, 3) := dX7_by_r30.2.2.2.2.2.1
theorem dX7_by_42 : decode cX7_by 42 = .ok (.aload_n 0, 1) := dX7_by_r30.2.2.2.2.2.2.1
theorem dX7_by_43 : decode cX7_by 43 = .ok (.iconst 5, 1) := dX7_by_r30.2.2.2.2.2.2.2.1
theorem dX7_by_44 : decode cX7_by 44 = .ok (.invokevirtual 82, 3) := dX7_by_r30.2.2.2.2.2.2.2.2.1
theorem dX7_by_47 : decode cX7_by 47 = .ok (.ireturn, 1) := dX7_by_r30.2.2.2.2.2.2.2.2.2.1
theorem dX7_by_48 : decode cX7_by 48 = .ok (.iload_n 1, 1) := dX7_by_r30.2.2.2.2.2.2.2.2.2.2.1
theorem dX7_by_49 : decode cX7_by 49 = .ok (.invokestatic 236, 3) := dX7_by_r30.2.2.2.2.2.2.2.2.2.2.2.1
theorem dX7_by_52 : decode cX7_by 52 = .ok (.ifCond .ne 10, 3) := dX7_by_r30.2.2.2.2.2.2.2.2.2.2.2.2.1
theorem dX7_by_55 : decode cX7_by 55 = .ok (.aload_n 0, 1) := dX7_by_r30.2.2.2.2.2.2.2.2.2.2.2.2.2.1
theorem dX7_by_56 : decode cX7_by 56 = .ok (.bipush 6, 2) := dX7_by_r30.2.2.2.2.2.2.2.2.2.2.2.2.2.2.1
theorem dX7_by_58 : decode cX7_by 58 = .ok (.invokevirtual 82, 3) := dX7_by_r30.2.2.2.2.2.2.2.2.2.2.2.2.2.2.2.1
theorem dX7_by_r61 : zdcP cX7_by 61 [(.ireturn, 1), (.aload_n 0, 1), (.getfield 40, 3), (.aload_n 0, 1), (.getfield 23, 3), (.invokevirtual 239, 3), (.aload_n 0, 1), (.getfield 40, 3), (.iload_n 1, 1), (.invokevirtual 242, 3), (.iload_n 2, 1)] := zdcA_ok (by decide +kernel)
theorem dX7_by_61 : decode cX7_by 61 = .ok (.ireturn, 1) := dX7_by_r61.1
theorem dX7_by_62 : decode cX7_by 62 = .ok (.aload_n 0, 1) := dX7_by_r61.2.1
theorem dX7_by_63 : decode cX7_by 63 = .ok (.getfield 40, 3) := dX7_by_r61.2.2.1
theorem dX7_by_66 : decode cX7_by 66 = .ok (.aload_n 0, 1) := dX7_by_r61.2.2.2.1
theorem dX7_by_67 : decode cX7_by 67 = .ok (.getfield 23, 3) := dX7_by_r61.2.2.2.2.1
theorem dX7_by_70 : decode cX7_by 70 = .ok (.invokevirtual 239, 3) := dX7_by_r61.2.2.2.2.2.1
theorem dX7_by_73 : decode cX7_by 73 = .ok (.aload_n 0, 1) := dX7_by_r61.2.2.2.2.2.2.1
theorem dX7_by_74 : decode cX7_by 74 = .ok (.getfield 40, 3) := dX7_by_r61.2.2.2.2.2.2.2.1
theorem dX7_by_77 : decode cX7_by 77 = .ok (.iload_n 1, 1) := dX7_by_r61.2.2.2.2.2.2.2.2.1
theorem dX7_by_78 : decode cX7_by 78 = .ok (.invokevirtual 242, 3) := dX7_by_r61.2.2.2.2.2.2.2.2.2.1
theorem dX7_by_81 : decode cX7_by 81 = .ok (.iload_n 2, 1) := dX7_by_r61.2.2.2.2.2.2.2.2.2.2.1
theorem dX7_by_82 : decode cX7_by 82 = .ok (.tableswitch 68 0 3 #[30, 41, 52, 60], 30) := by decide +kernel
theorem dX7_by_r112 : zdcP cX7_by 112 [(.aload_n 0, 1), (.getfield 40, 3), (.getfield 246, 3), (.getfield 221, 3), (.ireturn, 1), (.aload_n 0, 1), (.getfield 40, 3), (.getfield 246, 3), (.getfield 230, 3), (.ireturn, 1), (.aload_n 0, 1), (.getfield 40, 3), (.getfield 247, 3), (.ireturn, 1), (.aload_n 0, 1), (.getfield 40, 3)] := zdcA_ok (by decide +kernel)
theorem dX7_by_112 : decode cX7_by 112 = .ok (.aload_n 0, 1) := dX7_by_r112.1
theorem dX7_by_113 : decode cX7_by 113 = .ok (.getfield 40, 3) := dX7_by_r112.2.1
theorem dX7_by_116 : decode cX7_by 116 = .ok (.getfield 246, 3) := dX7_by_r112.2.2.1
theorem dX7_by_119 : decode cX7_by 119 = .ok (.getfield 221, 3) := dX7_by_r112.2.2.2.1
theorem dX7_by_122 : decode cX7_by 122 = .ok (.ireturn, 1) := dX7_by_r112.2.2.2.2.1
theorem dX7_by_123 : decode cX7_by 123 = .ok (.aload_n 0, 1) := dX7_by_r112.2.2.2.2.2.1
theorem dX7_by_124 : decode cX7_by 124 = .ok (.getfield 40, 3) := dX7_by_r112.2.2.2.2.2.2.1
theorem dX7_by_127 : decode cX7_by 127 = .ok (.getfield 246, 3) := dX7_by_r112.2.2.2.2.2.2.2.1
theorem dX7_by_130 : decode cX7_by 130 = .ok (.getfield 230, 3) := dX7_by_r112.2.2.2.2.2.2.2.2.1
theorem dX7_by_133 : decode cX7_by 133 = .ok (.ireturn, 1) := dX7_by_r112.2.2.2.2.2.2.2.2.2.1
theorem dX7_by_134 : decode cX7_by 134 = .ok (.aload_n 0, 1) := dX7_by_r112.2.2.2.2.2.2.2.2.2.2.1
theorem dX7_by_135 : decode cX7_by 135 = .ok (.getfield 40, 3) := dX7_by_r112.2.2.2.2.2.2.2.2.2.2.2.1
theorem dX7_by_138 : decode cX7_by 138 = .ok (.getfield 247, 3) := dX7_by_r112.2.2.2.2.2.2.2.2.2.2.2.2.1
theorem dX7_by_141 : decode cX7_by 141 = .ok (.ireturn, 1) := dX7_by_r112.2.2.2.2.2.2.2.2.2.2.2.2.2.1
theorem dX7_by_142 : decode cX7_by 142 = .ok (.aload_n 0, 1) := dX7_by_r112.2.2.2.2.2.2.2.2.2.2.2.2.2.2.1
theorem dX7_by_143 : decode cX7_by 143 = .ok (.getfield 40, 3) := dX7_by_r112.2.2.2.2.2.2.2.2.2.2.2.2.2.2.2.1
theorem dX7_by_r146 : zdcP cX7_by 146 [(.getfield 250, 3), (.ireturn, 1), (.aload_n 0, 1), (.getfield 40, 3), (.getfield 246, 3), (.getfield 143, 3), (.iload_n 2, 1), (.bipush 10, 2), (.isub, 1), (.iaload, 1), (.ireturn, 1)] := zdcA_ok (by decide +kernel)
theorem dX7_by_146 : decode cX7_by 146 = .ok (.getfield 250, 3) := dX7_by_r146.1
theorem dX7_by_149 : decode cX7_by 149 = .ok (.ireturn, 1) := dX7_by_r146.2.1
theorem dX7_by_150 : decode cX7_by 150 = .ok (.aload_n 0, 1) := dX7_by_r146.2.2.1
theorem dX7_by_151 : decode cX7_by 151 = .ok (.getfield 40, 3) := dX7_by_r146.2.2.2.1
theorem dX7_by_154 : decode cX7_by 154 = .ok (.getfield 246, 3) := dX7_by_r146.2.2.2.2.1
theorem dX7_by_157 : decode cX7_by 157 = .ok (.getfield 143, 3) := dX7_by_r146.2.2.2.2.2.1
theorem dX7_by_160 : decode cX7_by 160 = .ok (.iload_n 2, 1) := dX7_by_r146.2.2.2.2.2.2.1
theorem dX7_by_161 : decode cX7_by 161 = .ok (.bipush 10, 2) := dX7_by_r146.2.2.2.2.2.2.2.1
theorem dX7_by_163 : decode cX7_by 163 = .ok (.isub, 1) := dX7_by_r146.2.2.2.2.2.2.2.2.1
theorem dX7_by_164 : decode cX7_by 164 = .ok (.iaload, 1) := dX7_by_r146.2.2.2.2.2.2.2.2.2.1
theorem dX7_by_165 : decode cX7_by 165 = .ok (.ireturn, 1) := dX7_by_r146.2.2.2.2.2.2.2.2.2.2.1
def wq_88_48 (v1 : Int32) (v2 : Int32) (m : zf_Me) (Q : Int32 → zf_Me → Prop) : Prop := wp_116 v1 m (fun b1 m2 => ((b1 = true → wp_7 2 3 8 m2 (fun m4 => wp_8 v1 m4 (fun m6 => (((v2.toInt < 0 ∨ v2.toInt > 3) → ((0 ≤ (Int32.toInt (v2 - 10)) ∧ (Int32.toInt (v2 - 10)) < (6 : Int)) ∧ Q (m6.1 20 (Int32.toInt (v2 - 10)).toNat) m6)) ∧ (v2.toInt = 0 → Q (m6.1 19 10) m6) ∧ (v2.toInt = 1 → Q (m6.1 19 11) m6) ∧ (v2.toInt = 2 → Q (m6.1 18 3) m6) ∧ (v2.toInt = 3 → Q (m6.1 18 2) m6))))) ∧ (b1 = false → wp_109 6 m2 (fun x7 m8 => Q x7 m8))))
theorem zq_88_48 {d : Nat} (hd : 6 ≤ d) {v1 : Int32} {v2 : Int32} {Q : Int32 → zf_Me → Prop} {m : zf_Me} (h : wq_88_48 v1 v2 m Q) : zf_W none 0 0 d zt_88 48 [some (.inr (.inr (1, 0))), some (.inl v1), some (.inl v2), none] [] m (zf_I Q) := by
  obtain ⟨e, rfl⟩ : ∃ z, d = z + 1 := ⟨d - 1, by omega⟩
  unfold wq_88_48 at h
  refine zf_ld (pc' := 49) (v := .inl v1) dX7_by_48 rfl (fun _ _ _ => rfl) rfl rfl rfl ?_
  refine zf_is (k := 116) (pc' := 52) (r := []) dX7_by_49 rfl rfl rfl rfl rfl (zr_116 (by omega) h) (zf_kB (fun b1 m2 h => ?_))
  refine zf_ib_ne (tgt := 62) (pc' := 55) dX7_by_52 rfl rfl (fun g => ?_) (fun g => ?_)
  · replace h := h.1 g
    refine zf_ld (pc' := 63) (v := .inr (.inr (1, 0))) dX7_by_62 rfl (fun _ _ _ => rfl) rfl rfl rfl ?_
    refine zf_gfr (pc' := 66) (b := 18) dX7_by_63 rfl rfl (by decide) rfl rfl ?_
    refine zf_ld (pc' := 67) (v := .inr (.inr (1, 0))) dX7_by_66 rfl (fun _ _ _ => rfl) rfl rfl rfl ?_
    refine zf_gfr (pc' := 70) (b := 2) dX7_by_67 rfl rfl (by decide) rfl rfl ?_
    refine zf_iv (k := 7) (pc' := 73) (r := []) dX7_by_70 rfl rfl rfl rfl (by decide) rfl rfl rfl (zr_7 (by omega) zf_walk2 h) (zf_kO (fun m4 h => ?_))
    refine zf_ld (pc' := 74) (v := .inr (.inr (1, 0))) dX7_by_73 rfl (fun _ _ _ => rfl) rfl rfl rfl ?_
    refine zf_gfr (pc' := 77) (b := 18) dX7_by_74 rfl rfl (by decide) rfl rfl ?_
    refine zf_ld (pc' := 78) (v := .inl v1) dX7_by_77 rfl (fun _ _ _ => rfl) rfl rfl rfl ?_
    refine zf_iv (k := 8) (pc' := 81) (r := []) dX7_by_78 rfl rfl rfl rfl (by decide) rfl rfl rfl (zr_8 (by omega) h) (zf_kO (fun m6 h => ?_))
    refine zf_ld (pc' := 82) (v := .inl v2) dX7_by_81 rfl (fun _ _ _ => rfl) rfl rfl rfl ?_
    refine zf_tsc (tgd := 150) dX7_by_82 rfl [112, 123, 134, 142] (by decide) (by decide) (fun g => ?_) (zl_cons (fun g => ?_) (zl_cons (fun g => ?_) (zl_cons (fun g => ?_) (zl_cons (fun g => ?_) (zl_nil)))))
    · replace h := h.1 (by omega)
      refine zf_ld (pc' := 151) (v := .inr (.inr (1, 0))) dX7_by_150 rfl (fun _ _ _ => rfl) rfl rfl rfl ?_
      refine zf_gfr (pc' := 154) (b := 18) dX7_by_151 rfl rfl (by decide) rfl rfl ?_
      refine zf_gfr (pc' := 157) (b := 19) dX7_by_154 rfl rfl (by decide) rfl rfl ?_
      refine zf_gfr (pc' := 160) (b := 20) dX7_by_157 rfl rfl zf_walk19.1 zf_walk19.2.1 rfl ?_
      refine zf_ld (pc' := 161) (v := .inl v2) dX7_by_160 rfl (fun _ _ _ => rfl) rfl rfl rfl ?_
      refine zf_bi (v := 10) (pc' := 163) dX7_by_161 rfl rfl ?_
      refine zf_in (pc' := 164) (S' := [.inl (v2 - 10), .inr (.inr (1, 20))]) dX7_by_163 rfl (fun _ _ _ => rfl) ?_
      refine zf_ial (pc' := 165) dX7_by_164 rfl zf_walk19.2.2.2.1 zf_walk19.2.2.2.2 h.1 rfl ?_
      replace h := h.2
      exact zf_ri dX7_by_165 rfl h
    · replace h := h.2.1 (by omega)
      refine zf_ld (pc' := 113) (v := .inr (.inr (1, 0))) dX7_by_112 rfl (fun _ _ _ => rfl) rfl rfl rfl ?_
      refine zf_gfr (pc' := 116) (b := 18) dX7_by_113 rfl rfl (by decide) rfl rfl ?_
      refine zf_gfr (pc' := 119) (b := 19) dX7_by_116 rfl rfl (by decide) rfl rfl ?_
      refine zf_gfi (pc' := 122) dX7_by_119 rfl rfl zf_walk19.1 zf_walk19.2.1 rfl ?_
      exact zf_ri dX7_by_122 rfl h
    · replace h := h.2.2.1 (by omega)
      refine zf_ld (pc' := 124) (v := .inr (.inr (1, 0))) dX7_by_123 rfl (fun _ _ _ => rfl) rfl rfl rfl ?_
      refine zf_gfr (pc' := 127) (b := 18) dX7_by_124 rfl rfl (by decide) rfl rfl ?_
      refine zf_gfr (pc' := 130) (b := 19) dX7_by_127 rfl rfl (by decide) rfl rfl ?_
      refine zf_gfi (pc' := 133) dX7_by_130 rfl rfl zf_walk19.1 zf_walk19.2.1 rfl ?_
      exact zf_ri dX7_by_133 rfl h
    · replace h := h.2.2.2.1 (by omega)
      refine zf_ld (pc' := 135) (v := .inr (.inr (1, 0))) dX7_by_134 rfl (fun _ _ _ => rfl) rfl rfl rfl ?_
      refine zf_gfr (pc' := 138) (b := 18) dX7_by_135 rfl rfl (by decide) rfl rfl ?_
      refine zf_gfi (pc' := 141) dX7_by_138 rfl rfl (by decide) rfl rfl ?_
      exact zf_ri dX7_by_141 rfl h
    · replace h := h.2.2.2.2 (by omega)
      refine zf_ld (pc' := 143) (v := .inr (.inr (1, 0))) dX7_by_142 rfl (fun _ _ _ => rfl) rfl rfl rfl ?_
      refine zf_gfr (pc' := 146) (b := 18) dX7_by_143 rfl rfl (by decide) rfl rfl ?_
      refine zf_gfi (pc' := 149) dX7_by_146 rfl rfl (by decide) rfl rfl ?_
      exact zf_ri dX7_by_149 rfl h
  · replace h := h.2 g
    refine zf_ld (pc' := 56) (v := .inr (.inr (1, 0))) dX7_by_55 rfl (fun _ _ _ => rfl) rfl rfl rfl ?_
    refine zf_bi (v := 6) (pc' := 58) dX7_by_56 rfl rfl ?_
    refine zf_iv (k := 109) (pc' := 61) (r := []) dX7_by_58 rfl rfl rfl rfl (by decide) rfl rfl rfl (zr_109 (by omega) h) (zf_kI (fun x7 m8 h => ?_))
    exact zf_ri dX7_by_61 rfl h
def wq_88_28 (v1 : Int32) (v2 : Int32) (u0 : Int32) (m : zf_Me) (Q : Int32 → zf_Me → Prop) : Prop := ((¬ u0.toInt = 0 → wq_88_48 v1 v2 m Q) ∧ (u0.toInt = 0 → ((v2.toInt < 0 → wp_109 5 m (fun x9 m10 => Q x9 m10)) ∧ (v2.toInt ≥ 0 → ((v2.toInt ≤ 3 → wq_88_48 v1 v2 m Q) ∧ (v2.toInt > 3 → wp_109 5 m (fun x11 m12 => Q x11 m12)))))))
theorem zq_88_28 {d : Nat} (hd : 6 ≤ d) {v1 : Int32} {v2 : Int32} {Q : Int32 → zf_Me → Prop} {u0 : Int32} {m : zf_Me} (h : wq_88_28 v1 v2 u0 m Q) : zf_W none 0 0 d zt_88 28 [some (.inr (.inr (1, 0))), some (.inl v1), some (.inl v2), none] [.inl u0] m (zf_I Q) := by
  obtain ⟨e, rfl⟩ : ∃ z, d = z + 1 := ⟨d - 1, by omega⟩
  unfold wq_88_28 at h
  refine zf_st (pc' := 29) (L2 := [some (.inr (.inr (1, 0))), some (.inl v1), some (.inl v2), some (.inl u0)]) dX7_by_28 rfl (fun _ _ _ => rfl) rfl rfl rfl rfl rfl rfl ?_
  refine zf_ld (pc' := 30) (v := .inl u0) dX7_by_29 rfl (fun _ _ _ => rfl) rfl rfl rfl ?_
  refine zf_if_ne (tgt := 48) (pc' := 33) dX7_by_30 rfl rfl (fun g => ?_) (fun g => ?_)
  · replace h := h.1 g
    exact zf_lo (zq_88_48 (by omega) h) ⟨rfl, rfl, rfl, trivial⟩
  · replace h := h.2 g
    refine zf_ld (pc' := 34) (v := .inl v2) dX7_by_33 rfl (fun _ _ _ => rfl) rfl rfl rfl ?_
    refine zf_if_lt (tgt := 42) (pc' := 37) dX7_by_34 rfl rfl (fun g => ?_) (fun g => ?_)
    · replace h := h.1 g
      refine zf_ld (pc' := 43) (v := .inr (.inr (1, 0))) dX7_by_42 rfl (fun _ _ _ => rfl) rfl rfl rfl ?_
      refine zf_ic (v := 5) (pc' := 44) dX7_by_43 rfl rfl ?_
      refine zf_iv (k := 109) (pc' := 47) (r := []) dX7_by_44 rfl rfl rfl rfl (by decide) rfl rfl rfl (zr_109 (by omega) h) (zf_kI (fun x9 m10 h => ?_))
      exact zf_ri dX7_by_47 rfl h
    · replace h := h.2 g
      refine zf_ld (pc' := 38) (v := .inl v2) dX7_by_37 rfl (fun _ _ _ => rfl) rfl rfl rfl ?_
      refine zf_ic (v := 3) (pc' := 39) dX7_by_38 rfl rfl ?_
      refine zf_icmp_le (tgt := 48) (pc' := 42) dX7_by_39 rfl rfl (fun g => ?_) (fun g => ?_)
      · replace h := h.1 g
        exact zf_lo (zq_88_48 (by omega) h) ⟨rfl, rfl, rfl, trivial⟩
      · replace h := h.2 g
        refine zf_ld (pc' := 43) (v := .inr (.inr (1, 0))) dX7_by_42 rfl (fun _ _ _ => rfl) rfl rfl rfl ?_
        refine zf_ic (v := 5) (pc' := 44) dX7_by_43 rfl rfl ?_
        refine zf_iv (k := 109) (pc' := 47) (r := []) dX7_by_44 rfl rfl rfl rfl (by decide) rfl rfl rfl (zr_109 (by omega) h) (zf_kI (fun x11 m12 h => ?_))
        exact zf_ri dX7_by_47 rfl h
def wq_88_27 (v1 : Int32) (v2 : Int32) (m : zf_Me) (Q : Int32 → zf_Me → Prop) : Prop := wq_88_28 v1 v2 0 m Q
theorem zq_88_27 {d : Nat} (hd : 6 ≤ d) {v1 : Int32} {v2 : Int32} {Q : Int32 → zf_Me → Prop} {m : zf_Me} (h : wq_88_27 v1 v2 m Q) : zf_W none 0 0 d zt_88 27 [some (.inr (.inr (1, 0))), some (.inl v1), some (.inl v2), none] [] m (zf_I Q) := by
  unfold wq_88_27 at h
  refine zf_ic (v := 0) (pc' := 28) dX7_by_27 rfl rfl ?_
  exact zf_lo (zq_88_28 (by omega) h) ⟨rfl, rfl, rfl, trivial⟩
def wp_88 (v1 : Int32) (v2 : Int32) (m : zf_Me) (Q : Int32 → zf_Me → Prop) : Prop := ((v2.toInt < 10 → wq_88_27 v1 v2 m Q) ∧ (v2.toInt ≥ 10 → wp_65 3 (v2 - 10) m (fun b13 m14 => ((b13 = false → wq_88_27 v1 v2 m14 Q) ∧ (b13 = true → wq_88_28 v1 v2 1 m14 Q)))))
theorem zr_88 {d : Nat} (hd : 6 ≤ d) {v1 : Int32} {v2 : Int32} {Q : Int32 → zf_Me → Prop} {m : zf_Me} (h : wp_88 v1 v2 m Q) : zf_M d 88 [.inr (.inr (1, 0)), .inl v1, .inl v2] m (zf_I Q) := by
  obtain ⟨e, rfl⟩ : ∃ z, d = z + 1 := ⟨d - 1, by omega⟩
  unfold wp_88 at h
  refine zf_M_of (Nat.le_of_ble_eq_true rfl) zm_88 (L := [some (.inr (.inr (1, 0))), some (.inl v1), some (.inl v2), none]) rfl ?_
  refine zf_ld (pc' := 1) (v := .inl v2) dX7_by_0 rfl (fun _ _ _ => rfl) rfl rfl rfl ?_
  refine zf_bi (v := 10) (pc' := 3) dX7_by_1 rfl rfl ?_
  refine zf_icmp_lt (tgt := 27) (pc' := 6) dX7_by_3 rfl rfl (fun g => ?_) (fun g => ?_)
  · replace h := h.1 g
    exact zf_lo (zq_88_27 (by omega) h) ⟨rfl, rfl, rfl, trivial⟩
  · replace h := h.2 g
    refine zf_ld (pc' := 7) (v := .inr (.inr (1, 0))) dX7_by_6 rfl (fun _ _ _ => rfl) rfl rfl rfl ?_
    refine zf_gfr (pc' := 10) (b := 2) dX7_by_7 rfl rfl (by decide) rfl rfl ?_
    refine zf_gfr (pc' := 13) (b := 3) dX7_by_10 rfl rfl zf_walk2.1 zf_walk2.2.1 rfl ?_
    refine zf_ld (pc' := 14) (v := .inl v2) dX7_by_13 rfl (fun _ _ _ => rfl) rfl rfl rfl ?_
    refine zf_bi (v := 10) (pc' := 16) dX7_by_14 rfl rfl ?_
    refine zf_in (pc' := 17) (S' := [.inl (v2 - 10), .inr (.inr (1, 3))]) dX7_by_16 rfl (fun _ _ _ => rfl) ?_
    refine zf_iv (k := 65) (pc' := 20) (r := []) dX7_by_17 rfl rfl rfl rfl zf_walk2.2.2.1.1 zf_walk2.2.2.1.2.1 rfl rfl (zr_65 (by omega) zf_walk2.2.2.1 h) (zf_kB (fun b13 m14 h => ?_))
    refine zf_ib_eq (tgt := 27) (pc' := 23) dX7_by_20 rfl rfl (fun g => ?_) (fun g => ?_)
    · replace h := h.1 g
      exact zf_lo (zq_88_27 (by omega) h) ⟨rfl, rfl, rfl, trivial⟩
    · replace h := h.2 g
      refine zf_ic (v := 1) (pc' := 24) dX7_by_23 rfl rfl ?_
      refine zf_goto (tgt := 28) dX7_by_24 rfl ?_
      exact zf_lo (zq_88_28 (by omega) h) ⟨rfl, rfl, rfl, trivial⟩
