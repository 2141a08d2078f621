/-! part 43: methods 193..: laid by wip/flat/dec.py -/
def zt_193 : zx_MT := (8, yX8_done, cX8_done, 4, (some FieldType.int), 2, 0)
theorem zm_193 : zx_m 193 = zt_193 := rfl
theorem dX8_done_r0 : zdcP cX8_done 0 [(.aload_n 0, 1), (.iload_n 1, 1), (.iload_n 2, 1), (.invokevirtual 293, 3), (.istore_n 3, 1), (.iload_n 3, 1), (.ifCond .eq 9, 3), (.aload_n 0, 1), (.iload_n 3, 1), (.invokevirtual 115, 3), (.ireturn, 1), (.aload_n 0, 1), (.aload_n 0, 1), (.getfield 90, 3), (.iconst 0, 1), (.iconst 0, 1)] := zdcA_ok (by decide +kernel)
theorem dX8_done_0 : decode cX8_done 0 = .ok (.aload_n 0, 1) := dX8_done_r0.1
theorem dX8_done_1 : decode cX8_done 1 = .ok (.iload_n 1, 1) := dX8_done_r0.2.1
theorem dX8_done_2 : decode cX8_done 2 = .ok (.iload_n 2, 1) := dX8_done_r0.2.2.1
theorem dX8_done_3 : decode cX8_done 3 = .ok (.invokevirtual 293, 3) := dX8_done_r0.2.2.2.1
theorem dX8_done_6 : decode cX8_done 6 = .ok (.istore_n 3, 1) := dX8_done_r0.2.2.2.2.1
theorem dX8_done_7 : decode cX8_done 7 = .ok (.iload_n 3, 1) := dX8_done_r0.2.2.2.2.2.1
theorem dX8_done_8 : decode cX8_done 8 = .ok (.ifCond .eq 9, 3) := dX8_done_r0.2.2.2.2.2.2.1
theorem dX8_done_11 : decode cX8_done 11 = .ok (.aload_n 0, 1) := dX8_done_r0.2.2.2.2.2.2.2.1
theorem dX8_done_12 : decode cX8_done 12 = .ok (.iload_n 3, 1) := dX8_done_r0.2.2.2.2.2.2.2.2.1
theorem dX8_done_13 : decode cX8_done 13 = .ok (.invokevirtual 115, 3) := dX8_done_r0.2.2.2.2.2.2.2.2.2.1
theorem dX8_done_16 : decode cX8_done 16 = .ok (.ireturn, 1) := dX8_done_r0.2.2.2.2.2.2.2.2.2.2.1
theorem dX8_done_17 : decode cX8_done 17 = .ok (.aload_n 0, 1) := dX8_done_r0.2.2.2.2.2.2.2.2.2.2.2.1
theorem dX8_done_18 : decode cX8_done 18 = .ok (.aload_n 0, 1) := dX8_done_r0.2.2.2.2.2.2.2.2.2.2.2.2.1
theorem dX8_done_19 : decode cX8_done 19 = .ok (.getfield 90, 3) := dX8_done_r0.2.2.2.2.2.2.2.2.2.2.2.2.2.1
theorem dX8_done_22 : decode cX8_done 22 = .ok (.iconst 0, 1) := dX8_done_r0.2.2.2.2.2.2.2.2.2.2.2.2.2.2.1
theorem dX8_done_23 : decode cX8_done 23 = .ok (.iconst 0, 1) := dX8_done_r0.2.2.2.2.2.2.2.2.2.2.2.2.2.2.2.1
theorem dX8_done_r24 : zdcP cX8_done 24 [(.invokevirtual 213, 3), (.aload_n 0, 1), (.iload_n 1, 1), (.iload_n 2, 1), (.invokevirtual 296, 3), (.iconst (-1), 1), (.if_icmp .ne 8, 3), (.aload_n 0, 1), (.getfield 207, 3), (.ireturn, 1), (.aload_n 0, 1), (.invokevirtual 284, 3), (.aload_n 0, 1), (.bipush (-6), 2), (.invokevirtual 115, 3), (.ireturn, 1)] := zdcA_ok (by decide +kernel)
theorem dX8_done_24 : decode cX8_done 24 = .ok (.invokevirtual 213, 3) := dX8_done_r24.1
theorem dX8_done_27 : decode cX8_done 27 = .ok (.aload_n 0, 1) := dX8_done_r24.2.1
theorem dX8_done_28 : decode cX8_done 28 = .ok (.iload_n 1, 1) := dX8_done_r24.2.2.1
theorem dX8_done_29 : decode cX8_done 29 = .ok (.iload_n 2, 1) := dX8_done_r24.2.2.2.1
theorem dX8_done_30 : decode cX8_done 30 = .ok (.invokevirtual 296, 3) := dX8_done_r24.2.2.2.2.1
theorem dX8_done_33 : decode cX8_done 33 = .ok (.iconst (-1), 1) := dX8_done_r24.2.2.2.2.2.1
theorem dX8_done_34 : decode cX8_done 34 = .ok (.if_icmp .ne 8, 3) := dX8_done_r24.2.2.2.2.2.2.1
theorem dX8_done_37 : decode cX8_done 37 = .ok (.aload_n 0, 1) := dX8_done_r24.2.2.2.2.2.2.2.1
theorem dX8_done_38 : decode cX8_done 38 = .ok (.getfield 207, 3) := dX8_done_r24.2.2.2.2.2.2.2.2.1
theorem dX8_done_41 : decode cX8_done 41 = .ok (.ireturn, 1) := dX8_done_r24.2.2.2.2.2.2.2.2.2.1
theorem dX8_done_42 : decode cX8_done 42 = .ok (.aload_n 0, 1) := dX8_done_r24.2.2.2.2.2.2.2.2.2.2.1
theorem dX8_done_43 : decode cX8_done 43 = .ok (.invokevirtual 284, 3) := dX8_done_r24.2.2.2.2.2.2.2.2.2.2.2.1
theorem dX8_done_46 : decode cX8_done 46 = .ok (.aload_n 0, 1) := dX8_done_r24.2.2.2.2.2.2.2.2.2.2.2.2.1
theorem dX8_done_47 : decode cX8_done 47 = .ok (.bipush (-6), 2) := dX8_done_r24.2.2.2.2.2.2.2.2.2.2.2.2.2.1
theorem dX8_done_49 : decode cX8_done 49 = .ok (.invokevirtual 115, 3) := dX8_done_r24.2.2.2.2.2.2.2.2.2.2.2.2.2.2.1
theorem dX8_done_52 : decode cX8_done 52 = .ok (.ireturn, 1) := dX8_done_r24.2.2.2.2.2.2.2.2.2.2.2.2.2.2.2.1
def wp_193 (v1 : Int32) (v2 : Int32) (m : zf_Me) (Q : Int32 → zf_Me → Prop) : Prop := wp_190 v1 v2 m (fun x1 m2 => ((x1.toInt = 0 → wp_161 81 90 0 0 m2 (fun m4 => wp_189 v1 v2 m4 (fun x5 m6 => ((¬ x5.toInt = (-1) → wp_182 m6 (fun m8 => wp_125 (-6) m8 (fun x9 m10 => Q x9 m10))) ∧ (x5.toInt = (-1) → Q (m6.1 63 10) m6))))) ∧ (¬ x1.toInt = 0 → wp_125 x1 m2 (fun x11 m12 => Q x11 m12))))
theorem zr_193 {d : Nat} (hd : 4 ≤ d) {v1 : Int32} {v2 : Int32} {Q : Int32 → zf_Me → Prop} {m : zf_Me} (h : wp_193 v1 v2 m Q) : zf_M d 193 [.inr (.inr (1, 63)), .inl v1, .inl v2] m (zf_I Q) := by
  obtain ⟨e, rfl⟩ : ∃ z, d = z + 1 := ⟨d - 1, by omega⟩
  unfold wp_193 at h
  refine zf_M_of (Nat.le_of_ble_eq_true rfl) zm_193 (L := [some (.inr (.inr (1, 63))), some (.inl v1), some (.inl v2), none]) rfl ?_
  refine zf_ld (pc' := 1) (v := .inr (.inr (1, 63))) dX8_done_0 rfl (fun _ _ _ => rfl) rfl rfl rfl ?_
  refine zf_ld (pc' := 2) (v := .inl v1) dX8_done_1 rfl (fun _ _ _ => rfl) rfl rfl rfl ?_
  refine zf_ld (pc' := 3) (v := .inl v2) dX8_done_2 rfl (fun _ _ _ => rfl) rfl rfl rfl ?_
  refine zf_iv (k := 190) (pc' := 6) (r := []) dX8_done_3 rfl rfl rfl rfl (by decide) rfl rfl rfl (zr_190 (by omega) h) (zf_kI (fun x1 m2 h => ?_))
  refine zf_st (pc' := 7) (L2 := [some (.inr (.inr (1, 63))), some (.inl v1), some (.inl v2), some (.inl x1)]) dX8_done_6 rfl (fun _ _ _ => rfl) rfl rfl rfl rfl rfl rfl ?_
  refine zf_ld (pc' := 8) (v := .inl x1) dX8_done_7 rfl (fun _ _ _ => rfl) rfl rfl rfl ?_
  refine zf_if_eq (tgt := 17) (pc' := 11) dX8_done_8 rfl rfl (fun g => ?_) (fun g => ?_)
  · replace h := h.1 g
    refine zf_ld (pc' := 18) (v := .inr (.inr (1, 63))) dX8_done_17 rfl (fun _ _ _ => rfl) rfl rfl rfl ?_
    refine zf_ld (pc' := 19) (v := .inr (.inr (1, 63))) dX8_done_18 rfl (fun _ _ _ => rfl) rfl rfl rfl ?_
    refine zf_gfr (pc' := 22) (b := 81) dX8_done_19 rfl rfl (by decide) rfl rfl ?_
    refine zf_ic (v := 0) (pc' := 23) dX8_done_22 rfl rfl ?_
    refine zf_ic (v := 0) (pc' := 24) dX8_done_23 rfl rfl ?_
    refine zf_iv (k := 161) (pc' := 27) (r := []) dX8_done_24 rfl rfl rfl rfl (by decide) rfl rfl rfl (zr_161 (by omega) (⟨by decide, rfl⟩ : zf_arr 81 90) h) (zf_kO (fun m4 h => ?_))
    refine zf_ld (pc' := 28) (v := .inr (.inr (1, 63))) dX8_done_27 rfl (fun _ _ _ => rfl) rfl rfl rfl ?_
    refine zf_ld (pc' := 29) (v := .inl v1) dX8_done_28 rfl (fun _ _ _ => rfl) rfl rfl rfl ?_
    refine zf_ld (pc' := 30) (v := .inl v2) dX8_done_29 rfl (fun _ _ _ => rfl) rfl rfl rfl ?_
    refine zf_iv (k := 189) (pc' := 33) (r := []) dX8_done_30 rfl rfl rfl rfl (by decide) rfl rfl rfl (zr_189 (by omega) h) (zf_kI (fun x5 m6 h => ?_))
    refine zf_ic (v := (-1)) (pc' := 34) dX8_done_33 rfl rfl ?_
    refine zf_icmp_ne (tgt := 42) (pc' := 37) dX8_done_34 rfl rfl (fun g => ?_) (fun g => ?_)
    · replace h := h.1 g
      refine zf_ld (pc' := 43) (v := .inr (.inr (1, 63))) dX8_done_42 rfl (fun _ _ _ => rfl) rfl rfl rfl ?_
      refine zf_iv (k := 182) (pc' := 46) (r := []) dX8_done_43 rfl rfl rfl rfl (by decide) rfl rfl rfl (zr_182 (by omega) h) (zf_kO (fun m8 h => ?_))
      refine zf_ld (pc' := 47) (v := .inr (.inr (1, 63))) dX8_done_46 rfl (fun _ _ _ => rfl) rfl rfl rfl ?_
      refine zf_bi (v := (-6)) (pc' := 49) dX8_done_47 rfl rfl ?_
      refine zf_iv (k := 125) (pc' := 52) (r := []) dX8_done_49 rfl rfl rfl rfl (by decide) rfl rfl rfl (zr_125 (by omega) h) (zf_kI (fun x9 m10 h => ?_))
      exact zf_ri dX8_done_52 rfl h
    · replace h := h.2 g
      refine zf_ld (pc' := 38) (v := .inr (.inr (1, 63))) dX8_done_37 rfl (fun _ _ _ => rfl) rfl rfl rfl ?_
      refine zf_gfi (pc' := 41) dX8_done_38 rfl rfl (by decide) rfl rfl ?_
      exact zf_ri dX8_done_41 rfl h
  · replace h := h.2 g
    refine zf_ld (pc' := 12) (v := .inr (.inr (1, 63))) dX8_done_11 rfl (fun _ _ _ => rfl) rfl rfl rfl ?_
    refine zf_ld (pc' := 13) (v := .inl x1) dX8_done_12 rfl (fun _ _ _ => rfl) rfl rfl rfl ?_
    refine zf_iv (k := 125) (pc' := 16) (r := []) dX8_done_13 rfl rfl rfl rfl (by decide) rfl rfl rfl (zr_125 (by omega) h) (zf_kI (fun x11 m12 h => ?_))
    exact zf_ri dX8_done_16 rfl h
def zt_194 : zx_MT := (8, yX8_fits, cX8_fits, 7, (some FieldType.int), 1, 0)
theorem zm_194 : zx_m 194 = zt_194 := rfl
theorem dX8_fits_r0 : zdcP cX8_fits 0 [(.aload_n 0, 1), (.iload_n 1, 1), (.invokevirtual 130, 3), (.istore_n 2, 1), (.iload_n 2, 1), (.ifCond .ne 19, 3), (.aload_n 0, 1), (.getfield 105, 3), (.aload_n 0, 1), (.getfield 62, 3), (.iload_n 1, 1), (.iaload, 1), (.if_icmp .le 6, 3), (.bipush (-5), 2), (.istore_n 2, 1), (.iload_n 2, 1)] := zdcA_ok (by decide +kernel)
theorem dX8_fits_0 : decode cX8_fits 0 = .ok (.aload_n 0, 1) := dX8_fits_r0.1
theorem dX8_fits_1 : decode cX8_fits 1 = .ok (.iload_n 1, 1) := dX8_fits_r0.2.1
theorem dX8_fits_2 : decode cX8_fits 2 = .ok (.invokevirtual 130, 3) := dX8_fits_r0.2.2.1
theorem dX8_fits_5 : decode cX8_fits 5 = .ok (.istore_n 2, 1) := dX8_fits_r0.2.2.2.1
theorem dX8_fits_6 : decode cX8_fits 6 = .ok (.iload_n 2, 1) := dX8_fits_r0.2.2.2.2.1
theorem dX8_fits_7 : decode cX8_fits 7 = .ok (.ifCond .ne 19, 3) := dX8_fits_r0.2.2.2.2.2.1
theorem dX8_fits_10 : decode cX8_fits 10 = .ok (.aload_n 0, 1) := dX8_fits_r0.2.2.2.2.2.2.1
theorem dX8_fits_11 : decode cX8_fits 11 = .ok (.getfield 105, 3) := dX8_fits_r0.2.2.2.2.2.2.2.1
theorem dX8_fits_14 : decode cX8_fits 14 = .ok (.aload_n 0, 1) := dX8_fits_r0.2.2.2.2.2.2.2.2.1
theorem dX8_fits_15 : decode cX8_fits 15 = .ok (.getfield 62, 3) := dX8_fits_r0.2.2.2.2.2.2.2.2.2.1
theorem dX8_fits_18 : decode cX8_fits 18 = .ok (.iload_n 1, 1) := dX8_fits_r0.2.2.2.2.2.2.2.2.2.2.1
theorem dX8_fits_19 : decode cX8_fits 19 = .ok (.iaload, 1) := dX8_fits_r0.2.2.2.2.2.2.2.2.2.2.2.1
theorem dX8_fits_20 : decode cX8_fits 20 = .ok (.if_icmp .le 6, 3) := dX8_fits_r0.2.2.2.2.2.2.2.2.2.2.2.2.1
theorem dX8_fits_23 : decode cX8_fits 23 = .ok (.bipush (-5), 2) := dX8_fits_r0.2.2.2.2.2.2.2.2.2.2.2.2.2.1
theorem dX8_fits_25 : decode cX8_fits 25 = .ok (.istore_n 2, 1) := dX8_fits_r0.2.2.2.2.2.2.2.2.2.2.2.2.2.2.1
theorem dX8_fits_26 : decode cX8_fits 26 = .ok (.iload_n 2, 1) := dX8_fits_r0.2.2.2.2.2.2.2.2.2.2.2.2.2.2.2.1
theorem dX8_fits_r27 : zdcP cX8_fits 27 [(.ifCond .eq 9, 3), (.aload_n 0, 1), (.iload_n 2, 1), (.invokevirtual 115, 3), (.ireturn, 1), (.iconst 0, 1), (.istore_n 3, 1), (.iconst 0, 1), (.istore 4, 2), (.iload 4, 2), (.iconst 4, 1), (.if_icmp .ge 72, 3), (.aload_n 0, 1), (.iload 4, 2), (.invokevirtual 281, 3), (.iconst 1, 1)] := zdcA_ok (by decide +kernel)
theorem dX8_fits_27 : decode cX8_fits 27 = .ok (.ifCond .eq 9, 3) := dX8_fits_r27.1
theorem dX8_fits_30 : decode cX8_fits 30 = .ok (.aload_n 0, 1) := dX8_fits_r27.2.1
theorem dX8_fits_31 : decode cX8_fits 31 = .ok (.iload_n 2, 1) := dX8_fits_r27.2.2.1
theorem dX8_fits_32 : decode cX8_fits 32 = .ok (.invokevirtual 115, 3) := dX8_fits_r27.2.2.2.1
theorem dX8_fits_35 : decode cX8_fits 35 = .ok (.ireturn, 1) := dX8_fits_r27.2.2.2.2.1
theorem dX8_fits_36 : decode cX8_fits 36 = .ok (.iconst 0, 1) := dX8_fits_r27.2.2.2.2.2.1
theorem dX8_fits_37 : decode cX8_fits 37 = .ok (.istore_n 3, 1) := dX8_fits_r27.2.2.2.2.2.2.1
theorem dX8_fits_38 : decode cX8_fits 38 = .ok (.iconst 0, 1) := dX8_fits_r27.2.2.2.2.2.2.2.1
theorem dX8_fits_39 : decode cX8_fits 39 = .ok (.istore 4, 2) := dX8_fits_r27.2.2.2.2.2.2.2.2.1
theorem dX8_fits_41 : decode cX8_fits 41 = .ok (.iload 4, 2) := dX8_fits_r27.2.2.2.2.2.2.2.2.2.1
theorem dX8_fits_43 : decode cX8_fits 43 = .ok (.iconst 4, 1) := dX8_fits_r27.2.2.2.2.2.2.2.2.2.2.1
theorem dX8_fits_44 : decode cX8_fits 44 = .ok (.if_icmp .ge 72, 3) := dX8_fits_r27.2.2.2.2.2.2.2.2.2.2.2.1
theorem dX8_fits_47 : decode cX8_fits 47 = .ok (.aload_n 0, 1) := dX8_fits_r27.2.2.2.2.2.2.2.2.2.2.2.2.1
theorem dX8_fits_48 : decode cX8_fits 48 = .ok (.iload 4, 2) := dX8_fits_r27.2.2.2.2.2.2.2.2.2.2.2.2.2.1
theorem dX8_fits_50 : decode cX8_fits 50 = .ok (.invokevirtual 281, 3) := dX8_fits_r27.2.2.2.2.2.2.2.2.2.2.2.2.2.2.1
theorem dX8_fits_53 : decode cX8_fits 53 = .ok (.iconst 1, 1) := dX8_fits_r27.2.2.2.2.2.2.2.2.2.2.2.2.2.2.2.1
theorem dX8_fits_r54 : zdcP cX8_fits 54 [(.istore 5, 2), (.iconst 0, 1), (.istore 6, 2), (.iload 6, 2), (.aload_n 0, 1), (.getfield 105, 3), (.if_icmp .ge 29, 3), (.aload_n 0, 1), (.getfield 53, 3), (.iload 6, 2), (.iaload, 1), (.aload_n 0, 1), (.iload_n 1, 1), (.iload 6, 2), (.invokevirtual 287, 3), (.if_icmp .eq 6, 3)] := zdcA_ok (by decide +kernel)
theorem dX8_fits_54 : decode cX8_fits 54 = .ok (.istore 5, 2) := dX8_fits_r54.1
theorem dX8_fits_56 : decode cX8_fits 56 = .ok (.iconst 0, 1) := dX8_fits_r54.2.1
theorem dX8_fits_57 : decode cX8_fits 57 = .ok (.istore 6, 2) := dX8_fits_r54.2.2.1
theorem dX8_fits_59 : decode cX8_fits 59 = .ok (.iload 6, 2) := dX8_fits_r54.2.2.2.1
theorem dX8_fits_61 : decode cX8_fits 61 = .ok (.aload_n 0, 1) := dX8_fits_r54.2.2.2.2.1
theorem dX8_fits_62 : decode cX8_fits 62 = .ok (.getfield 105, 3) := dX8_fits_r54.2.2.2.2.2.1
theorem dX8_fits_65 : decode cX8_fits 65 = .ok (.if_icmp .ge 29, 3) := dX8_fits_r54.2.2.2.2.2.2.1
theorem dX8_fits_68 : decode cX8_fits 68 = .ok (.aload_n 0, 1) := dX8_fits_r54.2.2.2.2.2.2.2.1
theorem dX8_fits_69 : decode cX8_fits 69 = .ok (.getfield 53, 3) := dX8_fits_r54.2.2.2.2.2.2.2.2.1
theorem dX8_fits_72 : decode cX8_fits 72 = .ok (.iload 6, 2) := dX8_fits_r54.2.2.2.2.2.2.2.2.2.1
theorem dX8_fits_74 : decode cX8_fits 74 = .ok (.iaload, 1) := dX8_fits_r54.2.2.2.2.2.2.2.2.2.2.1
theorem dX8_fits_75 : decode cX8_fits 75 = .ok (.aload_n 0, 1) := dX8_fits_r54.2.2.2.2.2.2.2.2.2.2.2.1
theorem dX8_fits_76 : decode cX8_fits 76 = .ok (.iload_n 1, 1) := dX8_fits_r54.2.2.2.2.2.2.2.2.2.2.2.2.1
theorem dX8_fits_77 : decode cX8_fits 77 = .ok (.iload 6, 2) := dX8_fits_r54.2.2.2.2.2.2.2.2.2.2.2.2.2.1
theorem dX8_fits_79 : decode cX8_fits 79 = .ok (.invokevirtual 287, 3) := dX8_fits_r54.2.2.2.2.2.2.2.2.2.2.2.2.2.2.1
theorem dX8_fits_82 : decode cX8_fits 82 = .ok (.if_icmp .eq 6, 3) := dX8_fits_r54.2.2.2.2.2.2.2.2.2.2.2.2.2.2.2.1
theorem dX8_fits_r85 : zdcP cX8_fits 85 [(.iconst 0, 1), (.istore 5, 2), (.iinc 6 1, 3), (.goto (-32), 3), (.aload_n 0, 1), (.invokevirtual 284, 3), (.iload 5, 2), (.ifCond .eq 10, 3), (.iload_n 3, 1), (.iconst 1, 1), (.iload 4, 2), (.ishl, 1), (.ior, 1), (.istore_n 3, 1), (.iinc 4 1, 3), (.goto (-72), 3)] := zdcA_ok (by decide +kernel)
theorem dX8_fits_85 : decode cX8_fits 85 = .ok (.iconst 0, 1) := dX8_fits_r85.1
theorem dX8_fits_86 : decode cX8_fits 86 = .ok (.istore 5, 2) := dX8_fits_r85.2.1
theorem dX8_fits_88 : decode cX8_fits 88 = .ok (.iinc 6 1, 3) := dX8_fits_r85.2.2.1
theorem dX8_fits_91 : decode cX8_fits 91 = .ok (.goto (-32), 3) := dX8_fits_r85.2.2.2.1
theorem dX8_fits_94 : decode cX8_fits 94 = .ok (.aload_n 0, 1) := dX8_fits_r85.2.2.2.2.1
theorem dX8_fits_95 : decode cX8_fits 95 = .ok (.invokevirtual 284, 3) := dX8_fits_r85.2.2.2.2.2.1
theorem dX8_fits_98 : decode cX8_fits 98 = .ok (.iload 5, 2) := dX8_fits_r85.2.2.2.2.2.2.1
theorem dX8_fits_100 : decode cX8_fits 100 = .ok (.ifCond .eq 10, 3) := dX8_fits_r85.2.2.2.2.2.2.2.1
theorem dX8_fits_103 : decode cX8_fits 103 = .ok (.iload_n 3, 1) := dX8_fits_r85.2.2.2.2.2.2.2.2.1
theorem dX8_fits_104 : decode cX8_fits 104 = .ok (.iconst 1, 1) := dX8_fits_r85.2.2.2.2.2.2.2.2.2.1
theorem dX8_fits_105 : decode cX8_fits 105 = .ok (.iload 4, 2) := dX8_fits_r85.2.2.2.2.2.2.2.2.2.2.1
theorem dX8_fits_107 : decode cX8_fits 107 = .ok (.ishl, 1) := dX8_fits_r85.2.2.2.2.2.2.2.2.2.2.2.1
theorem dX8_fits_108 : decode cX8_fits 108 = .ok (.ior, 1) := dX8_fits_r85.2.2.2.2.2.2.2.2.2.2.2.2.1
theorem dX8_fits_109 : decode cX8_fits 109 = .ok (.istore_n 3, 1) := dX8_fits_r85.2.2.2.2.2.2.2.2.2.2.2.2.2.1
theorem dX8_fits_110 : decode cX8_fits 110 = .ok (.iinc 4 1, 3) := dX8_fits_r85.2.2.2.2.2.2.2.2.2.2.2.2.2.2.1
theorem dX8_fits_113 : decode cX8_fits 113 = .ok (.goto (-72), 3) := dX8_fits_r85.2.2.2.2.2.2.2.2.2.2.2.2.2.2.2.1
theorem dX8_fits_r116 : zdcP cX8_fits 116 [(.iload_n 3, 1), (.ireturn, 1)] := zdcA_ok (by decide +kernel)
theorem dX8_fits_116 : decode cX8_fits 116 = .ok (.iload_n 3, 1) := dX8_fits_r116.1
theorem dX8_fits_117 : decode cX8_fits 117 = .ok (.ireturn, 1) := dX8_fits_r116.2.1
def wq_194_59 (v1 : Int32) (F41 : Int32 → Int32 → zf_Me → Prop) (Q : Int32 → zf_Me → Prop) : Nat → Int32 → Int32 → Int32 → Int32 → zf_Me → Prop
  | 0, _, _, _, _, _ => False
  | n + 1, v3, v4, v5, v6, m => ((v6.toInt ≥ ((m.1 63 1)).toInt → wp_182 m (fun m6 => ((v5.toInt = 0 → F41 v3 (v4 + 1) m6) ∧ (¬ v5.toInt = 0 → F41 (v3 ||| (1 <<< (v4 &&& 31))) (v4 + 1) m6)))) ∧ (v6.toInt < ((m.1 63 1)).toInt → ((0 ≤ (Int32.toInt v6) ∧ (Int32.toInt v6) < (6 : Int)) ∧ wp_138 v1 v6 m (fun x7 m8 => ((((m.1 69 (Int32.toInt v6).toNat)).toInt = x7.toInt → wq_194_59 v1 F41 Q n v3 v4 v5 (v6 + 1) m8) ∧ (¬ ((m.1 69 (Int32.toInt v6).toNat)).toInt = x7.toInt → wq_194_59 v1 F41 Q n v3 v4 0 (v6 + 1) m8))))))
theorem zq_194_59 {d : Nat} (hd : 6 ≤ d) {v1 : Int32} {F41 : Int32 → Int32 → zf_Me → Prop} {Q : Int32 → zf_Me → Prop} (hF41 : ∀ (v3 : Int32) (v4 : Int32) (m : zf_Me), F41 v3 v4 m → zf_W none 0 0 d zt_194 41 [some (.inr (.inr (1, 63))), some (.inl v1), none, some (.inl v3), some (.inl v4), none, none] [] m (zf_I Q)) : ∀ (n : Nat) (v3 : Int32) (v4 : Int32) (v5 : Int32) (v6 : Int32) (m : zf_Me), wq_194_59 v1 F41 Q n v3 v4 v5 v6 m → zf_W none 0 0 d zt_194 59 [some (.inr (.inr (1, 63))), some (.inl v1), none, some (.inl v3), some (.inl v4), some (.inl v5), some (.inl v6)] [] m (zf_I Q) := by
  obtain ⟨e, rfl⟩ : ∃ z, d = z + 1 := ⟨d - 1, by omega⟩
  intro n
  induction n with
  | zero =>
    intro v3 v4 v5 v6 m h
    exact h.elim
  | succ n ih =>
    intro v3 v4 v5 v6 m h
    unfold wq_194_59 at h
    refine zf_ld (pc' := 61) (v := .inl v6) dX8_fits_59 rfl (fun _ _ _ => rfl) rfl rfl rfl ?_
    refine zf_ld (pc' := 62) (v := .inr (.inr (1, 63))) dX8_fits_61 rfl (fun _ _ _ => rfl) rfl rfl rfl ?_
    refine zf_gfi (pc' := 65) dX8_fits_62 rfl rfl (by decide) rfl rfl ?_
    refine zf_icmp_ge (tgt := 94) (pc' := 68) dX8_fits_65 rfl rfl (fun g => ?_) (fun g => ?_)
    · replace h := h.1 g
      refine zf_ld (pc' := 95) (v := .inr (.inr (1, 63))) dX8_fits_94 rfl (fun _ _ _ => rfl) rfl rfl rfl ?_
      refine zf_iv (k := 182) (pc' := 98) (r := []) dX8_fits_95 rfl rfl rfl rfl (by decide) rfl rfl rfl (zr_182 (by omega) h) (zf_kO (fun m6 h => ?_))
      refine zf_ld (pc' := 100) (v := .inl v5) dX8_fits_98 rfl (fun _ _ _ => rfl) rfl rfl rfl ?_
      refine zf_if_eq (tgt := 110) (pc' := 103) dX8_fits_100 rfl rfl (fun g => ?_) (fun g => ?_)
      · replace h := h.1 g
        refine zf_ii (y := (v4 + 1)) (L2 := [some (.inr (.inr (1, 63))), some (.inl v1), none, some (.inl v3), some (.inl (v4 + 1)), some (.inl v5), some (.inl v6)]) (pc' := 113) dX8_fits_110 rfl rfl rfl rfl rfl ?_
        refine zf_goto (tgt := 41) dX8_fits_113 rfl ?_
        exact zf_lo (hF41 _ _ _ h) ⟨rfl, rfl, rfl, rfl, trivial⟩
      · replace h := h.2 g
        refine zf_ld (pc' := 104) (v := .inl v3) dX8_fits_103 rfl (fun _ _ _ => rfl) rfl rfl rfl ?_
        refine zf_ic (v := 1) (pc' := 105) dX8_fits_104 rfl rfl ?_
        refine zf_ld (pc' := 107) (v := .inl v4) dX8_fits_105 rfl (fun _ _ _ => rfl) rfl rfl rfl ?_
        refine zf_in (pc' := 108) (S' := [.inl (1 <<< (v4 &&& 31)), .inl v3]) dX8_fits_107 rfl (fun _ _ _ => rfl) ?_
        refine zf_in (pc' := 109) (S' := [.inl (v3 ||| (1 <<< (v4 &&& 31)))]) dX8_fits_108 rfl (fun _ _ _ => rfl) ?_
        refine zf_st (pc' := 110) (L2 := [some (.inr (.inr (1, 63))), some (.inl v1), none, some (.inl (v3 ||| (1 <<< (v4 &&& 31)))), some (.inl v4), some (.inl v5), some (.inl v6)]) dX8_fits_109 rfl (fun _ _ _ => rfl) rfl rfl rfl rfl rfl rfl ?_
        refine zf_ii (y := (v4 + 1)) (L2 := [some (.inr (.inr (1, 63))), some (.inl v1), none, some (.inl (v3 ||| (1 <<< (v4 &&& 31)))), some (.inl (v4 + 1)), some (.inl v5), some (.inl v6)]) (pc' := 113) dX8_fits_110 rfl rfl rfl rfl rfl ?_
        refine zf_goto (tgt := 41) dX8_fits_113 rfl ?_
        exact zf_lo (hF41 _ _ _ h) ⟨rfl, rfl, rfl, rfl, trivial⟩
    · replace h := h.2 g
      refine zf_ld (pc' := 69) (v := .inr (.inr (1, 63))) dX8_fits_68 rfl (fun _ _ _ => rfl) rfl rfl rfl ?_
      refine zf_gfr (pc' := 72) (b := 69) dX8_fits_69 rfl rfl (by decide) rfl rfl ?_
      refine zf_ld (pc' := 74) (v := .inl v6) dX8_fits_72 rfl (fun _ _ _ => rfl) rfl rfl rfl ?_
      refine zf_ial (pc' := 75) dX8_fits_74 rfl (⟨by decide, rfl⟩ : zf_arr 69 6).1 (⟨by decide, rfl⟩ : zf_arr 69 6).2 h.1 rfl ?_
      replace h := h.2
      refine zf_ld (pc' := 76) (v := .inr (.inr (1, 63))) dX8_fits_75 rfl (fun _ _ _ => rfl) rfl rfl rfl ?_
      refine zf_ld (pc' := 77) (v := .inl v1) dX8_fits_76 rfl (fun _ _ _ => rfl) rfl rfl rfl ?_
      refine zf_ld (pc' := 79) (v := .inl v6) dX8_fits_77 rfl (fun _ _ _ => rfl) rfl rfl rfl ?_
      refine zf_iv (k := 138) (pc' := 82) (r := [.inl (m.1 69 (Int32.toInt v6).toNat)]) dX8_fits_79 rfl rfl rfl rfl (by decide) rfl rfl rfl (zr_138 (by omega) h) (zf_kI (fun x7 m8 h => ?_))
      refine zf_icmp_eq (tgt := 88) (pc' := 85) dX8_fits_82 rfl rfl (fun g => ?_) (fun g => ?_)
      · replace h := h.1 g
        refine zf_ii (y := (v6 + 1)) (L2 := [some (.inr (.inr (1, 63))), some (.inl v1), none, some (.inl v3), some (.inl v4), some (.inl v5), some (.inl (v6 + 1))]) (pc' := 91) dX8_fits_88 rfl rfl rfl rfl rfl ?_
        refine zf_goto (tgt := 59) dX8_fits_91 rfl ?_
        exact zf_lo (ih _ _ _ _ _ h) ⟨rfl, rfl, rfl, rfl, rfl, rfl, trivial⟩
      · replace h := h.2 g
        refine zf_ic (v := 0) (pc' := 86) dX8_fits_85 rfl rfl ?_
        refine zf_st (pc' := 88) (L2 := [some (.inr (.inr (1, 63))), some (.inl v1), none, some (.inl v3), some (.inl v4), some (.inl 0), some (.inl v6)]) dX8_fits_86 rfl (fun _ _ _ => rfl) rfl rfl rfl rfl rfl rfl ?_
        refine zf_ii (y := (v6 + 1)) (L2 := [some (.inr (.inr (1, 63))), some (.inl v1), none, some (.inl v3), some (.inl v4), some (.inl 0), some (.inl (v6 + 1))]) (pc' := 91) dX8_fits_88 rfl rfl rfl rfl rfl ?_
        refine zf_goto (tgt := 59) dX8_fits_91 rfl ?_
        exact zf_lo (ih _ _ _ _ _ h) ⟨rfl, rfl, rfl, rfl, rfl, rfl, trivial⟩
def wq_194_41 (v1 : Int32) (Q : Int32 → zf_Me → Prop) : Nat → Int32 → Int32 → zf_Me → Prop
  | 0, _, _, _ => False
  | n + 1, v3, v4, m => ((v4.toInt ≥ 4 → Q v3 m) ∧ (v4.toInt < 4 → wp_181 v4 m (fun m4 => (∃ n59, wq_194_59 v1 (wq_194_41 v1 Q n) Q n59 v3 v4 1 0 m4))))
theorem zq_194_41 {d : Nat} (hd : 6 ≤ d) {v1 : Int32} {Q : Int32 → zf_Me → Prop} : ∀ (n : Nat) (v3 : Int32) (v4 : Int32) (m : zf_Me), wq_194_41 v1 Q n v3 v4 m → zf_W none 0 0 d zt_194 41 [some (.inr (.inr (1, 63))), some (.inl v1), none, some (.inl v3), some (.inl v4), none, none] [] m (zf_I Q) := by
  obtain ⟨e, rfl⟩ : ∃ z, d = z + 1 := ⟨d - 1, by omega⟩
  intro n
  induction n with
  | zero =>
    intro v3 v4 m h
    exact h.elim
  | succ n ih =>
    intro v3 v4 m h
    unfold wq_194_41 at h
    refine zf_ld (pc' := 43) (v := .inl v4) dX8_fits_41 rfl (fun _ _ _ => rfl) rfl rfl rfl ?_
    refine zf_ic (v := 4) (pc' := 44) dX8_fits_43 rfl rfl ?_
    refine zf_icmp_ge (tgt := 116) (pc' := 47) dX8_fits_44 rfl rfl (fun g => ?_) (fun g => ?_)
    · replace h := h.1 g
      refine zf_ld (pc' := 117) (v := .inl v3) dX8_fits_116 rfl (fun _ _ _ => rfl) rfl rfl rfl ?_
      exact zf_ri dX8_fits_117 rfl h
    · replace h := h.2 g
      refine zf_ld (pc' := 48) (v := .inr (.inr (1, 63))) dX8_fits_47 rfl (fun _ _ _ => rfl) rfl rfl rfl ?_
      refine zf_ld (pc' := 50) (v := .inl v4) dX8_fits_48 rfl (fun _ _ _ => rfl) rfl rfl rfl ?_
      refine zf_iv (k := 181) (pc' := 53) (r := []) dX8_fits_50 rfl rfl rfl rfl (by decide) rfl rfl rfl (zr_181 (by omega) h) (zf_kO (fun m4 h => ?_))
      refine zf_ic (v := 1) (pc' := 54) dX8_fits_53 rfl rfl ?_
      refine zf_st (pc' := 56) (L2 := [some (.inr (.inr (1, 63))), some (.inl v1), none, some (.inl v3), some (.inl v4), some (.inl 1), none]) dX8_fits_54 rfl (fun _ _ _ => rfl) rfl rfl rfl rfl rfl rfl ?_
      refine zf_ic (v := 0) (pc' := 57) dX8_fits_56 rfl rfl ?_
      refine zf_st (pc' := 59) (L2 := [some (.inr (.inr (1, 63))), some (.inl v1), none, some (.inl v3), some (.inl v4), some (.inl 1), some (.inl 0)]) dX8_fits_57 rfl (fun _ _ _ => rfl) rfl rfl rfl rfl rfl rfl ?_
      obtain ⟨n59, h⟩ := h
      exact zf_lo (zq_194_59 (by omega) ih n59 _ _ _ _ _ h) ⟨rfl, rfl, rfl, rfl, rfl, rfl, trivial⟩
def wq_194_26 (v1 : Int32) (v2 : Int32) (m : zf_Me) (Q : Int32 → zf_Me → Prop) : Prop := ((v2.toInt = 0 → (∃ n41, wq_194_41 v1 Q n41 0 0 m)) ∧ (¬ v2.toInt = 0 → wp_125 v2 m (fun x9 m10 => Q x9 m10)))
theorem zq_194_26 {d : Nat} (hd : 6 ≤ d) {v1 : Int32} {Q : Int32 → zf_Me → Prop} {v2 : Int32} {m : zf_Me} (h : wq_194_26 v1 v2 m Q) : zf_W none 0 0 d zt_194 26 [some (.inr (.inr (1, 63))), some (.inl v1), some (.inl v2), none, none, none, none] [] m (zf_I Q) := by
  obtain ⟨e, rfl⟩ : ∃ z, d = z + 1 := ⟨d - 1, by omega⟩
  unfold wq_194_26 at h
  refine zf_ld (pc' := 27) (v := .inl v2) dX8_fits_26 rfl (fun _ _ _ => rfl) rfl rfl rfl ?_
  refine zf_if_eq (tgt := 36) (pc' := 30) dX8_fits_27 rfl rfl (fun g => ?_) (fun g => ?_)
  · replace h := h.1 g
    refine zf_ic (v := 0) (pc' := 37) dX8_fits_36 rfl rfl ?_
    refine zf_st (pc' := 38) (L2 := [some (.inr (.inr (1, 63))), some (.inl v1), some (.inl v2), some (.inl 0), none, none, none]) dX8_fits_37 rfl (fun _ _ _ => rfl) rfl rfl rfl rfl rfl rfl ?_
    refine zf_ic (v := 0) (pc' := 39) dX8_fits_38 rfl rfl ?_
    refine zf_st (pc' := 41) (L2 := [some (.inr (.inr (1, 63))), some (.inl v1), some (.inl v2), some (.inl 0), some (.inl 0), none, none]) dX8_fits_39 rfl (fun _ _ _ => rfl) rfl rfl rfl rfl rfl rfl ?_
    obtain ⟨n41, h⟩ := h
    exact zf_lo (zq_194_41 (by omega) n41 _ _ _ h) ⟨rfl, rfl, rfl, rfl, trivial⟩
  · replace h := h.2 g
    refine zf_ld (pc' := 31) (v := .inr (.inr (1, 63))) dX8_fits_30 rfl (fun _ _ _ => rfl) rfl rfl rfl ?_
    refine zf_ld (pc' := 32) (v := .inl v2) dX8_fits_31 rfl (fun _ _ _ => rfl) rfl rfl rfl ?_
    refine zf_iv (k := 125) (pc' := 35) (r := []) dX8_fits_32 rfl rfl rfl rfl (by decide) rfl rfl rfl (zr_125 (by omega) h) (zf_kI (fun x9 m10 h => ?_))
    exact zf_ri dX8_fits_35 rfl h
def wp_194 (v1 : Int32) (m : zf_Me) (Q : Int32 → zf_Me → Prop) : Prop := wp_137 v1 m (fun x1 m2 => ((¬ x1.toInt = 0 → wq_194_26 v1 x1 m2 Q) ∧ (x1.toInt = 0 → ((0 ≤ (Int32.toInt v1) ∧ (Int32.toInt v1) < (8 : Int)) ∧ ((((m2.1 63 1)).toInt ≤ ((m2.1 72 (Int32.toInt v1).toNat)).toInt → wq_194_26 v1 x1 m2 Q) ∧ (((m2.1 63 1)).toInt > ((m2.1 72 (Int32.toInt v1).toNat)).toInt → wq_194_26 v1 (-5) m2 Q))))))
theorem zr_194 {d : Nat} (hd : 6 ≤ d) {v1 : Int32} {Q : Int32 → zf_Me → Prop} {m : zf_Me} (h : wp_194 v1 m Q) : zf_M d 194 [.inr (.inr (1, 63)), .inl v1] m (zf_I Q) := by
  obtain ⟨e, rfl⟩ : ∃ z, d = z + 1 := ⟨d - 1, by omega⟩
  unfold wp_194 at h
  refine zf_M_of (Nat.le_of_ble_eq_true rfl) zm_194 (L := [some (.inr (.inr (1, 63))), some (.inl v1), none, none, none, none, none]) rfl ?_
  refine zf_ld (pc' := 1) (v := .inr (.inr (1, 63))) dX8_fits_0 rfl (fun _ _ _ => rfl) rfl rfl rfl ?_
  refine zf_ld (pc' := 2) (v := .inl v1) dX8_fits_1 rfl (fun _ _ _ => rfl) rfl rfl rfl ?_
  refine zf_iv (k := 137) (pc' := 5) (r := []) dX8_fits_2 rfl rfl rfl rfl (by decide) rfl rfl rfl (zr_137 (by omega) h) (zf_kI (fun x1 m2 h => ?_))
  refine zf_st (pc' := 6) (L2 := [some (.inr (.inr (1, 63))), some (.inl v1), some (.inl x1), none, none, none, none]) dX8_fits_5 rfl (fun _ _ _ => rfl) rfl rfl rfl rfl rfl rfl ?_
  refine zf_ld (pc' := 7) (v := .inl x1) dX8_fits_6 rfl (fun _ _ _ => rfl) rfl rfl rfl ?_
  refine zf_if_ne (tgt := 26) (pc' := 10) dX8_fits_7 rfl rfl (fun g => ?_) (fun g => ?_)
  · replace h := h.1 g
    exact zf_lo (zq_194_26 (by omega) h) ⟨rfl, rfl, rfl, trivial⟩
  · replace h := h.2 g
    refine zf_ld (pc' := 11) (v := .inr (.inr (1, 63))) dX8_fits_10 rfl (fun _ _ _ => rfl) rfl rfl rfl ?_
    refine zf_gfi (pc' := 14) dX8_fits_11 rfl rfl (by decide) rfl rfl ?_
    refine zf_ld (pc' := 15) (v := .inr (.inr (1, 63))) dX8_fits_14 rfl (fun _ _ _ => rfl) rfl rfl rfl ?_
    refine zf_gfr (pc' := 18) (b := 72) dX8_fits_15 rfl rfl (by decide) rfl rfl ?_
    refine zf_ld (pc' := 19) (v := .inl v1) dX8_fits_18 rfl (fun _ _ _ => rfl) rfl rfl rfl ?_
    refine zf_ial (pc' := 20) dX8_fits_19 rfl (⟨by decide, rfl⟩ : zf_arr 72 8).1 (⟨by decide, rfl⟩ : zf_arr 72 8).2 h.1 rfl ?_
    replace h := h.2
    refine zf_icmp_le (tgt := 26) (pc' := 23) dX8_fits_20 rfl rfl (fun g => ?_) (fun g => ?_)
    · replace h := h.1 g
      exact zf_lo (zq_194_26 (by omega) h) ⟨rfl, rfl, rfl, trivial⟩
    · replace h := h.2 g
      refine zf_bi (v := (-5)) (pc' := 25) dX8_fits_23 rfl rfl ?_
      refine zf_st (pc' := 26) (L2 := [some (.inr (.inr (1, 63))), some (.inl v1), some (.inl (-5)), none, none, none, none]) dX8_fits_25 rfl (fun _ _ _ => rfl) rfl rfl rfl rfl rfl rfl ?_
      exact zf_lo (zq_194_26 (by omega) h) ⟨rfl, rfl, rfl, trivial⟩
def zt_195 : zx_MT := (8, yX8_enough, cX8_enough, 4, (some FieldType.int), 0, 0)
theorem zm_195 : zx_m 195 = zt_195 := rfl
theorem dX8_enough_r0 : zdcP cX8_enough 0 [(.aload_n 0, 1), (.getfield 22, 3), (.istore_n 1, 1), (.iconst (-1), 1), (.istore_n 2, 1), (.iconst 0, 1), (.istore_n 3, 1), (.iload_n 3, 1), (.bipush 10, 2), (.if_icmp .ge 41, 3), (.iload_n 2, 1), (.iconst (-1), 1), (.if_icmp .ne 36, 3), (.aload_n 0, 1), (.iload_n 3, 1), (.putfield 22, 3)] := zdcA_ok (by decide +kernel)
theorem dX8_enough_0 : decode cX8_enough 0 = .ok (.aload_n 0, 1) := dX8_enough_r0.1
theorem dX8_enough_1 : decode cX8_enough 1 = .ok (.getfield 22, 3) := dX8_enough_r0.2.1
theorem dX8_enough_4 : decode cX8_enough 4 = .ok (.istore_n 1, 1) := dX8_enough_r0.2.2.1
theorem dX8_enough_5 : decode cX8_enough 5 = .ok (.iconst (-1), 1) := dX8_enough_r0.2.2.2.1
theorem dX8_enough_6 : decode cX8_enough 6 = .ok (.istore_n 2, 1) := dX8_enough_r0.2.2.2.2.1
theorem dX8_enough_7 : decode cX8_enough 7 = .ok (.iconst 0, 1) := dX8_enough_r0.2.2.2.2.2.1
theorem dX8_enough_8 : decode cX8_enough 8 = .ok (.istore_n 3, 1) := dX8_enough_r0.2.2.2.2.2.2.1
theorem dX8_enough_9 : decode cX8_enough 9 = .ok (.iload_n 3, 1) := dX8_enough_r0.2.2.2.2.2.2.2.1
theorem dX8_enough_10 : decode cX8_enough 10 = .ok (.bipush 10, 2) := dX8_enough_r0.2.2.2.2.2.2.2.2.1
theorem dX8_enough_12 : decode cX8_enough 12 = .ok (.if_icmp .ge 41, 3) := dX8_enough_r0.2.2.2.2.2.2.2.2.2.1
theorem dX8_enough_15 : decode cX8_enough 15 = .ok (.iload_n 2, 1) := dX8_enough_r0.2.2.2.2.2.2.2.2.2.2.1
theorem dX8_enough_16 : decode cX8_enough 16 = .ok (.iconst (-1), 1) := dX8_enough_r0.2.2.2.2.2.2.2.2.2.2.2.1
theorem dX8_enough_17 : decode cX8_enough 17 = .ok (.if_icmp .ne 36, 3) := dX8_enough_r0.2.2.2.2.2.2.2.2.2.2.2.2.1
theorem dX8_enough_20 : decode cX8_enough 20 = .ok (.aload_n 0, 1) := dX8_enough_r0.2.2.2.2.2.2.2.2.2.2.2.2.2.1
theorem dX8_enough_21 : decode cX8_enough 21 = .ok (.iload_n 3, 1) := dX8_enough_r0.2.2.2.2.2.2.2.2.2.2.2.2.2.2.1
theorem dX8_enough_22 : decode cX8_enough 22 = .ok (.putfield 22, 3) := dX8_enough_r0.2.2.2.2.2.2.2.2.2.2.2.2.2.2.2.1
theorem dX8_enough_r25 : zdcP cX8_enough 25 [(.aload_n 0, 1), (.iconst 3, 1), (.invokevirtual 281, 3), (.aload_n 0, 1), (.invokevirtual 284, 3), (.aload_n 0, 1), (.getfield 269, 3), (.aload_n 0, 1), (.getfield 108, 3), (.if_icmp .ne 5, 3), (.iload_n 3, 1), (.istore_n 2, 1), (.iinc 3 1, 3), (.goto (-41), 3), (.aload_n 0, 1), (.iload_n 1, 1)] := zdcA_ok (by decide +kernel)
theorem dX8_enough_25 : decode cX8_enough 25 = .ok (.aload_n 0, 1) := dX8_enough_r25.1
theorem dX8_enough_26 : decode cX8_enough 26 = .ok (.iconst 3, 1) := dX8_enough_r25.2.1
theorem dX8_enough_27 : decode cX8_enough 27 = .ok (.invokevirtual 281, 3) := dX8_enough_r25.2.2.1
theorem dX8_enough_30 : decode cX8_enough 30 = .ok (.aload_n 0, 1) := dX8_enough_r25.2.2.2.1
theorem dX8_enough_31 : decode cX8_enough 31 = .ok (.invokevirtual 284, 3) := dX8_enough_r25.2.2.2.2.1
theorem dX8_enough_34 : decode cX8_enough 34 = .ok (.aload_n 0, 1) := dX8_enough_r25.2.2.2.2.2.1
theorem dX8_enough_35 : decode cX8_enough 35 = .ok (.getfield 269, 3) := dX8_enough_r25.2.2.2.2.2.2.1
theorem dX8_enough_38 : decode cX8_enough 38 = .ok (.aload_n 0, 1) := dX8_enough_r25.2.2.2.2.2.2.2.1
theorem dX8_enough_39 : decode cX8_enough 39 = .ok (.getfield 108, 3) := dX8_enough_r25.2.2.2.2.2.2.2.2.1
theorem dX8_enough_42 : decode cX8_enough 42 = .ok (.if_icmp .ne 5, 3) := dX8_enough_r25.2.2.2.2.2.2.2.2.2.1
theorem dX8_enough_45 : decode cX8_enough 45 = .ok (.iload_n 3, 1) := dX8_enough_r25.2.2.2.2.2.2.2.2.2.2.1
theorem dX8_enough_46 : decode cX8_enough 46 = .ok (.istore_n 2, 1) := dX8_enough_r25.2.2.2.2.2.2.2.2.2.2.2.1
theorem dX8_enough_47 : decode cX8_enough 47 = .ok (.iinc 3 1, 3) := dX8_enough_r25.2.2.2.2.2.2.2.2.2.2.2.2.1
theorem dX8_enough_50 : decode cX8_enough 50 = .ok (.goto (-41), 3) := dX8_enough_r25.2.2.2.2.2.2.2.2.2.2.2.2.2.1
theorem dX8_enough_53 : decode cX8_enough 53 = .ok (.aload_n 0, 1) := dX8_enough_r25.2.2.2.2.2.2.2.2.2.2.2.2.2.2.1
theorem dX8_enough_54 : decode cX8_enough 54 = .ok (.iload_n 1, 1) := dX8_enough_r25.2.2.2.2.2.2.2.2.2.2.2.2.2.2.2.1
theorem dX8_enough_r55 : zdcP cX8_enough 55 [(.putfield 22, 3), (.iload_n 2, 1), (.ireturn, 1)] := zdcA_ok (by decide +kernel)
theorem dX8_enough_55 : decode cX8_enough 55 = .ok (.putfield 22, 3) := dX8_enough_r55.1
theorem dX8_enough_58 : decode cX8_enough 58 = .ok (.iload_n 2, 1) := dX8_enough_r55.2.1
theorem dX8_enough_59 : decode cX8_enough 59 = .ok (.ireturn, 1) := dX8_enough_r55.2.2.1
def wq_195_9 (Q : Int32 → zf_Me → Prop) : Nat → Int32 → Int32 → Int32 → zf_Me → Prop
  | 0, _, _, _, _ => False
  | n + 1, v1, v2, v3, m => ((v3.toInt ≥ 10 → (∀ m1, m1 = zf_u m 63 7 v1 → Q v2 m1)) ∧ (v3.toInt < 10 → ((¬ v2.toInt = (-1) → (∀ m3, m3 = zf_u m 63 7 v1 → Q v2 m3)) ∧ (v2.toInt = (-1) → (∀ m5, m5 = zf_u m 63 7 v3 → wp_181 3 m5 (fun m8 => wp_182 m8 (fun m10 => ((¬ ((m10.1 63 47)).toInt = ((m10.1 63 0)).toInt → wq_195_9 Q n v1 v2 (v3 + 1) m10) ∧ (((m10.1 63 47)).toInt = ((m10.1 63 0)).toInt → wq_195_9 Q n v1 v3 (v3 + 1) m10)))))))))
theorem zq_195_9 {d : Nat} (hd : 6 ≤ d) {Q : Int32 → zf_Me → Prop} : ∀ (n : Nat) (v1 : Int32) (v2 : Int32) (v3 : Int32) (m : zf_Me), wq_195_9 Q n v1 v2 v3 m → zf_W none 0 0 d zt_195 9 [some (.inr (.inr (1, 63))), some (.inl v1), some (.inl v2), some (.inl v3)] [] m (zf_I Q) := by
  obtain ⟨e, rfl⟩ : ∃ z, d = z + 1 := ⟨d - 1, by omega⟩
  intro n
  induction n with
  | zero =>
    intro v1 v2 v3 m h
    exact h.elim
  | succ n ih =>
    intro v1 v2 v3 m h
    unfold wq_195_9 at h
    refine zf_ld (pc' := 10) (v := .inl v3) dX8_enough_9 rfl (fun _ _ _ => rfl) rfl rfl rfl ?_
    refine zf_bi (v := 10) (pc' := 12) dX8_enough_10 rfl rfl ?_
    refine zf_icmp_ge (tgt := 53) (pc' := 15) dX8_enough_12 rfl rfl (fun g => ?_) (fun g => ?_)
    · replace h := h.1 g
      refine zf_ld (pc' := 54) (v := .inr (.inr (1, 63))) dX8_enough_53 rfl (fun _ _ _ => rfl) rfl rfl rfl ?_
      refine zf_ld (pc' := 55) (v := .inl v1) dX8_enough_54 rfl (fun _ _ _ => rfl) rfl rfl rfl ?_
      refine zf_pf (pc' := 58) dX8_enough_55 rfl rfl (by decide) rfl rfl rfl (fun m1 e2 => ?_)
      replace h := h m1 e2
      refine zf_ld (pc' := 59) (v := .inl v2) dX8_enough_58 rfl (fun _ _ _ => rfl) rfl rfl rfl ?_
      exact zf_ri dX8_enough_59 rfl h
    · replace h := h.2 g
      refine zf_ld (pc' := 16) (v := .inl v2) dX8_enough_15 rfl (fun _ _ _ => rfl) rfl rfl rfl ?_
      refine zf_ic (v := (-1)) (pc' := 17) dX8_enough_16 rfl rfl ?_
      refine zf_icmp_ne (tgt := 53) (pc' := 20) dX8_enough_17 rfl rfl (fun g => ?_) (fun g => ?_)
      · replace h := h.1 g
        refine zf_ld (pc' := 54) (v := .inr (.inr (1, 63))) dX8_enough_53 rfl (fun _ _ _ => rfl) rfl rfl rfl ?_
        refine zf_ld (pc' := 55) (v := .inl v1) dX8_enough_54 rfl (fun _ _ _ => rfl) rfl rfl rfl ?_
        refine zf_pf (pc' := 58) dX8_enough_55 rfl rfl (by decide) rfl rfl rfl (fun m3 e4 => ?_)
        replace h := h m3 e4
        refine zf_ld (pc' := 59) (v := .inl v2) dX8_enough_58 rfl (fun _ _ _ => rfl) rfl rfl rfl ?_
        exact zf_ri dX8_enough_59 rfl h
      · replace h := h.2 g
        refine zf_ld (pc' := 21) (v := .inr (.inr (1, 63))) dX8_enough_20 rfl (fun _ _ _ => rfl) rfl rfl rfl ?_
        refine zf_ld (pc' := 22) (v := .inl v3) dX8_enough_21 rfl (fun _ _ _ => rfl) rfl rfl rfl ?_
        refine zf_pf (pc' := 25) dX8_enough_22 rfl rfl (by decide) rfl rfl rfl (fun m5 e6 => ?_)
        replace h := h m5 e6
        refine zf_ld (pc' := 26) (v := .inr (.inr (1, 63))) dX8_enough_25 rfl (fun _ _ _ => rfl) rfl rfl rfl ?_
        refine zf_ic (v := 3) (pc' := 27) dX8_enough_26 rfl rfl ?_
        refine zf_iv (k := 181) (pc' := 30) (r := []) dX8_enough_27 rfl rfl rfl rfl (by decide) rfl rfl rfl (zr_181 (by omega) h) (zf_kO (fun m8 h => ?_))
        refine zf_ld (pc' := 31) (v := .inr (.inr (1, 63))) dX8_enough_30 rfl (fun _ _ _ => rfl) rfl rfl rfl ?_
        refine zf_iv (k := 182) (pc' := 34) (r := []) dX8_enough_31 rfl rfl rfl rfl (by decide) rfl rfl rfl (zr_182 (by omega) h) (zf_kO (fun m10 h => ?_))
        refine zf_ld (pc' := 35) (v := .inr (.inr (1, 63))) dX8_enough_34 rfl (fun _ _ _ => rfl) rfl rfl rfl ?_
        refine zf_gfi (pc' := 38) dX8_enough_35 rfl rfl (by decide) rfl rfl ?_
        refine zf_ld (pc' := 39) (v := .inr (.inr (1, 63))) dX8_enough_38 rfl (fun _ _ _ => rfl) rfl rfl rfl ?_
        refine zf_gfi (pc' := 42) dX8_enough_39 rfl rfl (by decide) rfl rfl ?_
        refine zf_icmp_ne (tgt := 47) (pc' := 45) dX8_enough_42 rfl rfl (fun g => ?_) (fun g => ?_)
        · replace h := h.1 g
          refine zf_ii (y := (v3 + 1)) (L2 := [some (.inr (.inr (1, 63))), some (.inl v1), some (.inl v2), some (.inl (v3 + 1))]) (pc' := 50) dX8_enough_47 rfl rfl rfl rfl rfl ?_
          refine zf_goto (tgt := 9) dX8_enough_50 rfl ?_
          exact zf_lo (ih _ _ _ _ h) ⟨rfl, rfl, rfl, rfl, trivial⟩
        · replace h := h.2 g
          refine zf_ld (pc' := 46) (v := .inl v3) dX8_enough_45 rfl (fun _ _ _ => rfl) rfl rfl rfl ?_
          refine zf_st (pc' := 47) (L2 := [some (.inr (.inr (1, 63))), some (.inl v1), some (.inl v3), some (.inl v3)]) dX8_enough_46 rfl (fun _ _ _ => rfl) rfl rfl rfl rfl rfl rfl ?_
          refine zf_ii (y := (v3 + 1)) (L2 := [some (.inr (.inr (1, 63))), some (.inl v1), some (.inl v3), some (.inl (v3 + 1))]) (pc' := 50) dX8_enough_47 rfl rfl rfl rfl rfl ?_
          refine zf_goto (tgt := 9) dX8_enough_50 rfl ?_
          exact zf_lo (ih _ _ _ _ h) ⟨rfl, rfl, rfl, rfl, trivial⟩
def wp_195 (m : zf_Me) (Q : Int32 → zf_Me → Prop) : Prop := (∃ n9, wq_195_9 Q n9 (m.1 63 7) (-1) 0 m)
theorem zr_195 {d : Nat} (hd : 6 ≤ d) {Q : Int32 → zf_Me → Prop} {m : zf_Me} (h : wp_195 m Q) : zf_M d 195 [.inr (.inr (1, 63))] m (zf_I Q) := by
  unfold wp_195 at h
  refine zf_M_of (Nat.le_of_ble_eq_true rfl) zm_195 (L := [some (.inr (.inr (1, 63))), none, none, none]) rfl ?_
  refine zf_ld (pc' := 1) (v := .inr (.inr (1, 63))) dX8_enough_0 rfl (fun _ _ _ => rfl) rfl rfl rfl ?_
  refine zf_gfi (pc' := 4) dX8_enough_1 rfl rfl (by decide) rfl rfl ?_
  refine zf_st (pc' := 5) (L2 := [some (.inr (.inr (1, 63))), some (.inl (m.1 63 7)), none, none]) dX8_enough_4 rfl (fun _ _ _ => rfl) rfl rfl rfl rfl rfl rfl ?_
  refine zf_ic (v := (-1)) (pc' := 6) dX8_enough_5 rfl rfl ?_
  refine zf_st (pc' := 7) (L2 := [some (.inr (.inr (1, 63))), some (.inl (m.1 63 7)), some (.inl (-1)), none]) dX8_enough_6 rfl (fun _ _ _ => rfl) rfl rfl rfl rfl rfl rfl ?_
  refine zf_ic (v := 0) (pc' := 8) dX8_enough_7 rfl rfl ?_
  refine zf_st (pc' := 9) (L2 := [some (.inr (.inr (1, 63))), some (.inl (m.1 63 7)), some (.inl (-1)), some (.inl 0)]) dX8_enough_8 rfl (fun _ _ _ => rfl) rfl rfl rfl rfl rfl rfl ?_
  obtain ⟨n9, h⟩ := h
  exact zf_lo (zq_195_9 (by omega) n9 _ _ _ _ h) ⟨rfl, rfl, rfl, rfl, trivial⟩
def zt_196 : zx_MT := (8, yX8_leastWorn, cX8_leastWorn, 5, (some FieldType.int), 1, 0)
theorem zm_196 : zx_m 196 = zt_196 := rfl
theorem dX8_leastWorn_r0 : zdcP cX8_leastWorn 0 [(.aload_n 0, 1), (.iload_n 1, 1), (.invokevirtual 278, 3), (.ifCond .ne 10, 3), (.aload_n 0, 1), (.bipush (-6), 2), (.invokevirtual 142, 3), (.ireturn, 1), (.aload_n 0, 1), (.getfield 28, 3), (.istore_n 2, 1), (.iconst (-1), 1), (.istore_n 3, 1), (.iconst 1, 1), (.istore 4, 2), (.iload 4, 2)] := zdcA_ok (by decide +kernel)
theorem dX8_leastWorn_0 : decode cX8_leastWorn 0 = .ok (.aload_n 0, 1) := dX8_leastWorn_r0.1
theorem dX8_leastWorn_1 : decode cX8_leastWorn 1 = .ok (.iload_n 1, 1) := dX8_leastWorn_r0.2.1
theorem dX8_leastWorn_2 : decode cX8_leastWorn 2 = .ok (.invokevirtual 278, 3) := dX8_leastWorn_r0.2.2.1
theorem dX8_leastWorn_5 : decode cX8_leastWorn 5 = .ok (.ifCond .ne 10, 3) := dX8_leastWorn_r0.2.2.2.1
theorem dX8_leastWorn_8 : decode cX8_leastWorn 8 = .ok (.aload_n 0, 1) := dX8_leastWorn_r0.2.2.2.2.1
theorem dX8_leastWorn_9 : decode cX8_leastWorn 9 = .ok (.bipush (-6), 2) := dX8_leastWorn_r0.2.2.2.2.2.1
theorem dX8_leastWorn_11 : decode cX8_leastWorn 11 = .ok (.invokevirtual 142, 3) := dX8_leastWorn_r0.2.2.2.2.2.2.1
theorem dX8_leastWorn_14 : decode cX8_leastWorn 14 = .ok (.ireturn, 1) := dX8_leastWorn_r0.2.2.2.2.2.2.2.1
theorem dX8_leastWorn_15 : decode cX8_leastWorn 15 = .ok (.aload_n 0, 1) := dX8_leastWorn_r0.2.2.2.2.2.2.2.2.1
theorem dX8_leastWorn_16 : decode cX8_leastWorn 16 = .ok (.getfield 28, 3) := dX8_leastWorn_r0.2.2.2.2.2.2.2.2.2.1
theorem dX8_leastWorn_19 : decode cX8_leastWorn 19 = .ok (.istore_n 2, 1) := dX8_leastWorn_r0.2.2.2.2.2.2.2.2.2.2.1
theorem dX8_leastWorn_20 : decode cX8_leastWorn 20 = .ok (.iconst (-1), 1) := dX8_leastWorn_r0.2.2.2.2.2.2.2.2.2.2.2.1
theorem dX8_leastWorn_21 : decode cX8_leastWorn 21 = .ok (.istore_n 3, 1) := dX8_leastWorn_r0.2.2.2.2.2.2.2.2.2.2.2.2.1
theorem dX8_leastWorn_22 : decode cX8_leastWorn 22 = .ok (.iconst 1, 1) := dX8_leastWorn_r0.2.2.2.2.2.2.2.2.2.2.2.2.2.1
theorem dX8_leastWorn_23 : decode cX8_leastWorn 23 = .ok (.istore 4, 2) := dX8_leastWorn_r0.2.2.2.2.2.2.2.2.2.2.2.2.2.2.1
theorem dX8_leastWorn_25 : decode cX8_leastWorn 25 = .ok (.iload 4, 2) := dX8_leastWorn_r0.2.2.2.2.2.2.2.2.2.2.2.2.2.2.2.1
theorem dX8_leastWorn_r27 : zdcP cX8_leastWorn 27 [(.bipush 100, 2), (.if_icmp .ge 43, 3), (.iload_n 3, 1), (.iconst (-1), 1), (.if_icmp .ne 38, 3), (.aload_n 0, 1), (.iload 4, 2), (.putfield 28, 3), (.aload_n 0, 1), (.iload_n 1, 1), (.invokevirtual 281, 3), (.aload_n 0, 1), (.invokevirtual 284, 3), (.aload_n 0, 1), (.getfield 269, 3), (.aload_n 0, 1)] := zdcA_ok (by decide +kernel)
theorem dX8_leastWorn_27 : decode cX8_leastWorn 27 = .ok (.bipush 100, 2) := dX8_leastWorn_r27.1
theorem dX8_leastWorn_29 : decode cX8_leastWorn 29 = .ok (.if_icmp .ge 43, 3) := dX8_leastWorn_r27.2.1
theorem dX8_leastWorn_32 : decode cX8_leastWorn 32 = .ok (.iload_n 3, 1) := dX8_leastWorn_r27.2.2.1
theorem dX8_leastWorn_33 : decode cX8_leastWorn 33 = .ok (.iconst (-1), 1) := dX8_leastWorn_r27.2.2.2.1
theorem dX8_leastWorn_34 : decode cX8_leastWorn 34 = .ok (.if_icmp .ne 38, 3) := dX8_leastWorn_r27.2.2.2.2.1
theorem dX8_leastWorn_37 : decode cX8_leastWorn 37 = .ok (.aload_n 0, 1) := dX8_leastWorn_r27.2.2.2.2.2.1
theorem dX8_leastWorn_38 : decode cX8_leastWorn 38 = .ok (.iload 4, 2) := dX8_leastWorn_r27.2.2.2.2.2.2.1
theorem dX8_leastWorn_40 : decode cX8_leastWorn 40 = .ok (.putfield 28, 3) := dX8_leastWorn_r27.2.2.2.2.2.2.2.1
theorem dX8_leastWorn_43 : decode cX8_leastWorn 43 = .ok (.aload_n 0, 1) := dX8_leastWorn_r27.2.2.2.2.2.2.2.2.1
theorem dX8_leastWorn_44 : decode cX8_leastWorn 44 = .ok (.iload_n 1, 1) := dX8_leastWorn_r27.2.2.2.2.2.2.2.2.2.1
theorem dX8_leastWorn_45 : decode cX8_leastWorn 45 = .ok (.invokevirtual 281, 3) := dX8_leastWorn_r27.2.2.2.2.2.2.2.2.2.2.1
theorem dX8_leastWorn_48 : decode cX8_leastWorn 48 = .ok (.aload_n 0, 1) := dX8_leastWorn_r27.2.2.2.2.2.2.2.2.2.2.2.1
theorem dX8_leastWorn_49 : decode cX8_leastWorn 49 = .ok (.invokevirtual 284, 3) := dX8_leastWorn_r27.2.2.2.2.2.2.2.2.2.2.2.2.1
theorem dX8_leastWorn_52 : decode cX8_leastWorn 52 = .ok (.aload_n 0, 1) := dX8_leastWorn_r27.2.2.2.2.2.2.2.2.2.2.2.2.2.1
theorem dX8_leastWorn_53 : decode cX8_leastWorn 53 = .ok (.getfield 269, 3) := dX8_leastWorn_r27.2.2.2.2.2.2.2.2.2.2.2.2.2.2.1
theorem dX8_leastWorn_56 : decode cX8_leastWorn 56 = .ok (.aload_n 0, 1) := dX8_leastWorn_r27.2.2.2.2.2.2.2.2.2.2.2.2.2.2.2.1
theorem dX8_leastWorn_r57 : zdcP cX8_leastWorn 57 [(.getfield 108, 3), (.if_icmp .ne 6, 3), (.iload 4, 2), (.istore_n 3, 1), (.iinc 4 1, 3), (.goto (-44), 3), (.aload_n 0, 1), (.iload_n 2, 1), (.putfield 28, 3), (.iload_n 3, 1), (.ireturn, 1)] := zdcA_ok (by decide +kernel)
theorem dX8_leastWorn_57 : decode cX8_leastWorn 57 = .ok (.getfield 108, 3) := dX8_leastWorn_r57.1
theorem dX8_leastWorn_60 : decode cX8_leastWorn 60 = .ok (.if_icmp .ne 6, 3) := dX8_leastWorn_r57.2.1
theorem dX8_leastWorn_63 : decode cX8_leastWorn 63 = .ok (.iload 4, 2) := dX8_leastWorn_r57.2.2.1
theorem dX8_leastWorn_65 : decode cX8_leastWorn 65 = .ok (.istore_n 3, 1) := dX8_leastWorn_r57.2.2.2.1
theorem dX8_leastWorn_66 : decode cX8_leastWorn 66 = .ok (.iinc 4 1, 3) := dX8_leastWorn_r57.2.2.2.2.1
theorem dX8_leastWorn_69 : decode cX8_leastWorn 69 = .ok (.goto (-44), 3) := dX8_leastWorn_r57.2.2.2.2.2.1
theorem dX8_leastWorn_72 : decode cX8_leastWorn 72 = .ok (.aload_n 0, 1) := dX8_leastWorn_r57.2.2.2.2.2.2.1
theorem dX8_leastWorn_73 : decode cX8_leastWorn 73 = .ok (.iload_n 2, 1) := dX8_leastWorn_r57.2.2.2.2.2.2.2.1
theorem dX8_leastWorn_74 : decode cX8_leastWorn 74 = .ok (.putfield 28, 3) := dX8_leastWorn_r57.2.2.2.2.2.2.2.2.1
theorem dX8_leastWorn_77 : decode cX8_leastWorn 77 = .ok (.iload_n 3, 1) := dX8_leastWorn_r57.2.2.2.2.2.2.2.2.2.1
theorem dX8_leastWorn_78 : decode cX8_leastWorn 78 = .ok (.ireturn, 1) := dX8_leastWorn_r57.2.2.2.2.2.2.2.2.2.2.1
def wq_196_25 (v1 : Int32) (Q : Int32 → zf_Me → Prop) : Nat → Int32 → Int32 → Int32 → zf_Me → Prop
  | 0, _, _, _, _ => False
  | n + 1, v2, v3, v4, m => ((v4.toInt ≥ 100 → (∀ m3, m3 = zf_u m 63 9 v2 → Q v3 m3)) ∧ (v4.toInt < 100 → ((¬ v3.toInt = (-1) → (∀ m5, m5 = zf_u m 63 9 v2 → Q v3 m5)) ∧ (v3.toInt = (-1) → (∀ m7, m7 = zf_u m 63 9 v4 → wp_181 v1 m7 (fun m10 => wp_182 m10 (fun m12 => ((¬ ((m12.1 63 47)).toInt = ((m12.1 63 0)).toInt → wq_196_25 v1 Q n v2 v3 (v4 + 1) m12) ∧ (((m12.1 63 47)).toInt = ((m12.1 63 0)).toInt → wq_196_25 v1 Q n v2 v4 (v4 + 1) m12)))))))))
theorem zq_196_25 {d : Nat} (hd : 6 ≤ d) {v1 : Int32} {Q : Int32 → zf_Me → Prop} : ∀ (n : Nat) (v2 : Int32) (v3 : Int32) (v4 : Int32) (m : zf_Me), wq_196_25 v1 Q n v2 v3 v4 m → zf_W none 0 0 d zt_196 25 [some (.inr (.inr (1, 63))), some (.inl v1), some (.inl v2), some (.inl v3), some (.inl v4)] [] m (zf_I Q) := by
  obtain ⟨e, rfl⟩ : ∃ z, d = z + 1 := ⟨d - 1, by omega⟩
  intro n
  induction n with
  | zero =>
    intro v2 v3 v4 m h
    exact h.elim
  | succ n ih =>
    intro v2 v3 v4 m h
    unfold wq_196_25 at h
    refine zf_ld (pc' := 27) (v := .inl v4) dX8_leastWorn_25 rfl (fun _ _ _ => rfl) rfl rfl rfl ?_
    refine zf_bi (v := 100) (pc' := 29) dX8_leastWorn_27 rfl rfl ?_
    refine zf_icmp_ge (tgt := 72) (pc' := 32) dX8_leastWorn_29 rfl rfl (fun g => ?_) (fun g => ?_)
    · replace h := h.1 g
      refine zf_ld (pc' := 73) (v := .inr (.inr (1, 63))) dX8_leastWorn_72 rfl (fun _ _ _ => rfl) rfl rfl rfl ?_
      refine zf_ld (pc' := 74) (v := .inl v2) dX8_leastWorn_73 rfl (fun _ _ _ => rfl) rfl rfl rfl ?_
      refine zf_pf (pc' := 77) dX8_leastWorn_74 rfl rfl (by decide) rfl rfl rfl (fun m3 e4 => ?_)
      replace h := h m3 e4
      refine zf_ld (pc' := 78) (v := .inl v3) dX8_leastWorn_77 rfl (fun _ _ _ => rfl) rfl rfl rfl ?_
      exact zf_ri dX8_leastWorn_78 rfl h
    · replace h := h.2 g
      refine zf_ld (pc' := 33) (v := .inl v3) dX8_leastWorn_32 rfl (fun _ _ _ => rfl) rfl rfl rfl ?_
      refine zf_ic (v := (-1)) (pc' := 34) dX8_leastWorn_33 rfl rfl ?_
      refine zf_icmp_ne (tgt := 72) (pc' := 37) dX8_leastWorn_34 rfl rfl (fun g => ?_) (fun g => ?_)
      · replace h := h.1 g
        refine zf_ld (pc' := 73) (v := .inr (.inr (1, 63))) dX8_leastWorn_72 rfl (fun _ _ _ => rfl) rfl rfl rfl ?_
        refine zf_ld (pc' := 74) (v := .inl v2) dX8_leastWorn_73 rfl (fun _ _ _ => rfl) rfl rfl rfl ?_
        refine zf_pf (pc' := 77) dX8_leastWorn_74 rfl rfl (by decide) rfl rfl rfl (fun m5 e6 => ?_)
        replace h := h m5 e6
        refine zf_ld (pc' := 78) (v := .inl v3) dX8_leastWorn_77 rfl (fun _ _ _ => rfl) rfl rfl rfl ?_
        exact zf_ri dX8_leastWorn_78 rfl h
      · replace h := h.2 g
        refine zf_ld (pc' := 38) (v := .inr (.inr (1, 63))) dX8_leastWorn_37 rfl (fun _ _ _ => rfl) rfl rfl rfl ?_
        refine zf_ld (pc' := 40) (v := .inl v4) dX8_leastWorn_38 rfl (fun _ _ _ => rfl) rfl rfl rfl ?_
        refine zf_pf (pc' := 43) dX8_leastWorn_40 rfl rfl (by decide) rfl rfl rfl (fun m7 e8 => ?_)
        replace h := h m7 e8
        refine zf_ld (pc' := 44) (v := .inr (.inr (1, 63))) dX8_leastWorn_43 rfl (fun _ _ _ => rfl) rfl rfl rfl ?_
        refine zf_ld (pc' := 45) (v := .inl v1) dX8_leastWorn_44 rfl (fun _ _ _ => rfl) rfl rfl rfl ?_
        refine zf_iv (k := 181) (pc' := 48) (r := []) dX8_leastWorn_45 rfl rfl rfl rfl (by decide) rfl rfl rfl (zr_181 (by omega) h) (zf_kO (fun m10 h => ?_))
        refine zf_ld (pc' := 49) (v := .inr (.inr (1, 63))) dX8_leastWorn_48 rfl (fun _ _ _ => rfl) rfl rfl rfl ?_
        refine zf_iv (k := 182) (pc' := 52) (r := []) dX8_leastWorn_49 rfl rfl rfl rfl (by decide) rfl rfl rfl (zr_182 (by omega) h) (zf_kO (fun m12 h => ?_))
        refine zf_ld (pc' := 53) (v := .inr (.inr (1, 63))) dX8_leastWorn_52 rfl (fun _ _ _ => rfl) rfl rfl rfl ?_
        refine zf_gfi (pc' := 56) dX8_leastWorn_53 rfl rfl (by decide) rfl rfl ?_
        refine zf_ld (pc' := 57) (v := .inr (.inr (1, 63))) dX8_leastWorn_56 rfl (fun _ _ _ => rfl) rfl rfl rfl ?_
        refine zf_gfi (pc' := 60) dX8_leastWorn_57 rfl rfl (by decide) rfl rfl ?_
        refine zf_icmp_ne (tgt := 66) (pc' := 63) dX8_leastWorn_60 rfl rfl (fun g => ?_) (fun g => ?_)
        · replace h := h.1 g
          refine zf_ii (y := (v4 + 1)) (L2 := [some (.inr (.inr (1, 63))), some (.inl v1), some (.inl v2), some (.inl v3), some (.inl (v4 + 1))]) (pc' := 69) dX8_leastWorn_66 rfl rfl rfl rfl rfl ?_
          refine zf_goto (tgt := 25) dX8_leastWorn_69 rfl ?_
          exact zf_lo (ih _ _ _ _ h) ⟨rfl, rfl, rfl, rfl, rfl, trivial⟩
        · replace h := h.2 g
          refine zf_ld (pc' := 65) (v := .inl v4) dX8_leastWorn_63 rfl (fun _ _ _ => rfl) rfl rfl rfl ?_
          refine zf_st (pc' := 66) (L2 := [some (.inr (.inr (1, 63))), some (.inl v1), some (.inl v2), some (.inl v4), some (.inl v4)]) dX8_leastWorn_65 rfl (fun _ _ _ => rfl) rfl rfl rfl rfl rfl rfl ?_
          refine zf_ii (y := (v4 + 1)) (L2 := [some (.inr (.inr (1, 63))), some (.inl v1), some (.inl v2), some (.inl v4), some (.inl (v4 + 1))]) (pc' := 69) dX8_leastWorn_66 rfl rfl rfl rfl rfl ?_
          refine zf_goto (tgt := 25) dX8_leastWorn_69 rfl ?_
          exact zf_lo (ih _ _ _ _ h) ⟨rfl, rfl, rfl, rfl, rfl, trivial⟩
def wp_196 (v1 : Int32) (m : zf_Me) (Q : Int32 → zf_Me → Prop) : Prop := wp_180 v1 m (fun b1 m2 => ((b1 = true → (∃ n25, wq_196_25 v1 Q n25 (m2.1 63 9) (-1) 1 m2)) ∧ (b1 = false → wp_126 (-6) m2 (fun x13 m14 => Q x13 m14))))
theorem zr_196 {d : Nat} (hd : 6 ≤ d) {v1 : Int32} {Q : Int32 → zf_Me → Prop} {m : zf_Me} (h : wp_196 v1 m Q) : zf_M d 196 [.inr (.inr (1, 63)), .inl v1] m (zf_I Q) := by
  obtain ⟨e, rfl⟩ : ∃ z, d = z + 1 := ⟨d - 1, by omega⟩
  unfold wp_196 at h
  refine zf_M_of (Nat.le_of_ble_eq_true rfl) zm_196 (L := [some (.inr (.inr (1, 63))), some (.inl v1), none, none, none]) rfl ?_
  refine zf_ld (pc' := 1) (v := .inr (.inr (1, 63))) dX8_leastWorn_0 rfl (fun _ _ _ => rfl) rfl rfl rfl ?_
  refine zf_ld (pc' := 2) (v := .inl v1) dX8_leastWorn_1 rfl (fun _ _ _ => rfl) rfl rfl rfl ?_
  refine zf_iv (k := 180) (pc' := 5) (r := []) dX8_leastWorn_2 rfl rfl rfl rfl (by decide) rfl rfl rfl (zr_180 (by omega) h) (zf_kB (fun b1 m2 h => ?_))
  refine zf_ib_ne (tgt := 15) (pc' := 8) dX8_leastWorn_5 rfl rfl (fun g => ?_) (fun g => ?_)
  · replace h := h.1 g
    refine zf_ld (pc' := 16) (v := .inr (.inr (1, 63))) dX8_leastWorn_15 rfl (fun _ _ _ => rfl) rfl rfl rfl ?_
    refine zf_gfi (pc' := 19) dX8_leastWorn_16 rfl rfl (by decide) rfl rfl ?_
    refine zf_st (pc' := 20) (L2 := [some (.inr (.inr (1, 63))), some (.inl v1), some (.inl (m2.1 63 9)), none, none]) dX8_leastWorn_19 rfl (fun _ _ _ => rfl) rfl rfl rfl rfl rfl rfl ?_
    refine zf_ic (v := (-1)) (pc' := 21) dX8_leastWorn_20 rfl rfl ?_
    refine zf_st (pc' := 22) (L2 := [some (.inr (.inr (1, 63))), some (.inl v1), some (.inl (m2.1 63 9)), some (.inl (-1)), none]) dX8_leastWorn_21 rfl (fun _ _ _ => rfl) rfl rfl rfl rfl rfl rfl ?_
    refine zf_ic (v := 1) (pc' := 23) dX8_leastWorn_22 rfl rfl ?_
    refine zf_st (pc' := 25) (L2 := [some (.inr (.inr (1, 63))), some (.inl v1), some (.inl (m2.1 63 9)), some (.inl (-1)), some (.inl 1)]) dX8_leastWorn_23 rfl (fun _ _ _ => rfl) rfl rfl rfl rfl rfl rfl ?_
    obtain ⟨n25, h⟩ := h
    exact zf_lo (zq_196_25 (by omega) n25 _ _ _ _ h) ⟨rfl, rfl, rfl, rfl, rfl, trivial⟩
  · replace h := h.2 g
    refine zf_ld (pc' := 9) (v := .inr (.inr (1, 63))) dX8_leastWorn_8 rfl (fun _ _ _ => rfl) rfl rfl rfl ?_
    refine zf_bi (v := (-6)) (pc' := 11) dX8_leastWorn_9 rfl rfl ?_
    refine zf_iv (k := 126) (pc' := 14) (r := []) dX8_leastWorn_11 rfl rfl rfl rfl (by decide) rfl rfl rfl (zr_126 (by omega) h) (zf_kI (fun x13 m14 h => ?_))
    exact zf_ri dX8_leastWorn_14 rfl h
def zt_197 : zx_MT := (8, yX8_does, cX8_does, 2, (some FieldType.int), 1, 0)
theorem zm_197 : zx_m 197 = zt_197 := rfl
theorem dX8_does_r0 : zdcP cX8_does 0 [(.iload_n 1, 1), (.ifCond .lt 17, 3), (.iload_n 1, 1), (.bipush 9, 2), (.if_icmp .gt 11, 3), (.aload_n 0, 1), (.iload_n 1, 1), (.invokevirtual 180, 3), (.ifCond .ne 10, 3), (.aload_n 0, 1), (.bipush (-6), 2), (.invokevirtual 115, 3), (.ireturn, 1), (.aload_n 0, 1), (.iload_n 1, 1), (.invokevirtual 196, 3)] := zdcA_ok (by decide +kernel)
theorem dX8_does_0 : decode cX8_does 0 = .ok (.iload_n 1, 1) := dX8_does_r0.1
theorem dX8_does_1 : decode cX8_does 1 = .ok (.ifCond .lt 17, 3) := dX8_does_r0.2.1
theorem dX8_does_4 : decode cX8_does 4 = .ok (.iload_n 1, 1) := dX8_does_r0.2.2.1
theorem dX8_does_5 : decode cX8_does 5 = .ok (.bipush 9, 2) := dX8_does_r0.2.2.2.1
theorem dX8_does_7 : decode cX8_does 7 = .ok (.if_icmp .gt 11, 3) := dX8_does_r0.2.2.2.2.1
theorem dX8_does_10 : decode cX8_does 10 = .ok (.aload_n 0, 1) := dX8_does_r0.2.2.2.2.2.1
theorem dX8_does_11 : decode cX8_does 11 = .ok (.iload_n 1, 1) := dX8_does_r0.2.2.2.2.2.2.1
theorem dX8_does_12 : decode cX8_does 12 = .ok (.invokevirtual 180, 3) := dX8_does_r0.2.2.2.2.2.2.2.1
theorem dX8_does_15 : decode cX8_does 15 = .ok (.ifCond .ne 10, 3) := dX8_does_r0.2.2.2.2.2.2.2.2.1
theorem dX8_does_18 : decode cX8_does 18 = .ok (.aload_n 0, 1) := dX8_does_r0.2.2.2.2.2.2.2.2.2.1
theorem dX8_does_19 : decode cX8_does 19 = .ok (.bipush (-6), 2) := dX8_does_r0.2.2.2.2.2.2.2.2.2.2.1
theorem dX8_does_21 : decode cX8_does 21 = .ok (.invokevirtual 115, 3) := dX8_does_r0.2.2.2.2.2.2.2.2.2.2.2.1
theorem dX8_does_24 : decode cX8_does 24 = .ok (.ireturn, 1) := dX8_does_r0.2.2.2.2.2.2.2.2.2.2.2.2.1
theorem dX8_does_25 : decode cX8_does 25 = .ok (.aload_n 0, 1) := dX8_does_r0.2.2.2.2.2.2.2.2.2.2.2.2.2.1
theorem dX8_does_26 : decode cX8_does 26 = .ok (.iload_n 1, 1) := dX8_does_r0.2.2.2.2.2.2.2.2.2.2.2.2.2.2.1
theorem dX8_does_27 : decode cX8_does 27 = .ok (.invokevirtual 196, 3) := dX8_does_r0.2.2.2.2.2.2.2.2.2.2.2.2.2.2.2.1
theorem dX8_does_r30 : zdcP cX8_does 30 [(.aload_n 0, 1), (.getfield 207, 3), (.ireturn, 1)] := zdcA_ok (by decide +kernel)
theorem dX8_does_30 : decode cX8_does 30 = .ok (.aload_n 0, 1) := dX8_does_r30.1
theorem dX8_does_31 : decode cX8_does 31 = .ok (.getfield 207, 3) := dX8_does_r30.2.1
theorem dX8_does_34 : decode cX8_does 34 = .ok (.ireturn, 1) := dX8_does_r30.2.2.1
def wp_197 (v1 : Int32) (m : zf_Me) (Q : Int32 → zf_Me → Prop) : Prop := ((v1.toInt < 0 → wp_125 (-6) m (fun x1 m2 => Q x1 m2)) ∧ (v1.toInt ≥ 0 → ((v1.toInt > 9 → wp_125 (-6) m (fun x3 m4 => Q x3 m4)) ∧ (v1.toInt ≤ 9 → wp_167 v1 m (fun b5 m6 => ((b5 = true → wp_169 v1 m6 (fun m8 => Q (m8.1 63 10) m8)) ∧ (b5 = false → wp_125 (-6) m6 (fun x9 m10 => Q x9 m10))))))))
theorem zr_197 {d : Nat} (hd : 3 ≤ d) {v1 : Int32} {Q : Int32 → zf_Me → Prop} {m : zf_Me} (h : wp_197 v1 m Q) : zf_M d 197 [.inr (.inr (1, 63)), .inl v1] m (zf_I Q) := by
  obtain ⟨e, rfl⟩ : ∃ z, d = z + 1 := ⟨d - 1, by omega⟩
  unfold wp_197 at h
  refine zf_M_of (Nat.le_of_ble_eq_true rfl) zm_197 (L := [some (.inr (.inr (1, 63))), some (.inl v1)]) rfl ?_
  refine zf_ld (pc' := 1) (v := .inl v1) dX8_does_0 rfl (fun _ _ _ => rfl) rfl rfl rfl ?_
  refine zf_if_lt (tgt := 18) (pc' := 4) dX8_does_1 rfl rfl (fun g => ?_) (fun g => ?_)
  · replace h := h.1 g
    refine zf_ld (pc' := 19) (v := .inr (.inr (1, 63))) dX8_does_18 rfl (fun _ _ _ => rfl) rfl rfl rfl ?_
    refine zf_bi (v := (-6)) (pc' := 21) dX8_does_19 rfl rfl ?_
    refine zf_iv (k := 125) (pc' := 24) (r := []) dX8_does_21 rfl rfl rfl rfl (by decide) rfl rfl rfl (zr_125 (by omega) h) (zf_kI (fun x1 m2 h => ?_))
    exact zf_ri dX8_does_24 rfl h
  · replace h := h.2 g
    refine zf_ld (pc' := 5) (v := .inl v1) dX8_does_4 rfl (fun _ _ _ => rfl) rfl rfl rfl ?_
    refine zf_bi (v := 9) (pc' := 7) dX8_does_5 rfl rfl ?_
    refine zf_icmp_gt (tgt := 18) (pc' := 10) dX8_does_7 rfl rfl (fun g => ?_) (fun g => ?_)
    · replace h := h.1 g
      refine zf_ld (pc' := 19) (v := .inr (.inr (1, 63))) dX8_does_18 rfl (fun _ _ _ => rfl) rfl rfl rfl ?_
      refine zf_bi (v := (-6)) (pc' := 21) dX8_does_19 rfl rfl ?_
      refine zf_iv (k := 125) (pc' := 24) (r := []) dX8_does_21 rfl rfl rfl rfl (by decide) rfl rfl rfl (zr_125 (by omega) h) (zf_kI (fun x3 m4 h => ?_))
      exact zf_ri dX8_does_24 rfl h
    · replace h := h.2 g
      refine zf_ld (pc' := 11) (v := .inr (.inr (1, 63))) dX8_does_10 rfl (fun _ _ _ => rfl) rfl rfl rfl ?_
      refine zf_ld (pc' := 12) (v := .inl v1) dX8_does_11 rfl (fun _ _ _ => rfl) rfl rfl rfl ?_
      refine zf_iv (k := 167) (pc' := 15) (r := []) dX8_does_12 rfl rfl rfl rfl (by decide) rfl rfl rfl (zr_167 (by omega) h) (zf_kB (fun b5 m6 h => ?_))
      refine zf_ib_ne (tgt := 25) (pc' := 18) dX8_does_15 rfl rfl (fun g => ?_) (fun g => ?_)
      · replace h := h.1 g
        refine zf_ld (pc' := 26) (v := .inr (.inr (1, 63))) dX8_does_25 rfl (fun _ _ _ => rfl) rfl rfl rfl ?_
        refine zf_ld (pc' := 27) (v := .inl v1) dX8_does_26 rfl (fun _ _ _ => rfl) rfl rfl rfl ?_
        refine zf_iv (k := 169) (pc' := 30) (r := []) dX8_does_27 rfl rfl rfl rfl (by decide) rfl rfl rfl (zr_169 (by omega) h) (zf_kO (fun m8 h => ?_))
        refine zf_ld (pc' := 31) (v := .inr (.inr (1, 63))) dX8_does_30 rfl (fun _ _ _ => rfl) rfl rfl rfl ?_
        refine zf_gfi (pc' := 34) dX8_does_31 rfl rfl (by decide) rfl rfl ?_
        exact zf_ri dX8_does_34 rfl h
      · replace h := h.2 g
        refine zf_ld (pc' := 19) (v := .inr (.inr (1, 63))) dX8_does_18 rfl (fun _ _ _ => rfl) rfl rfl rfl ?_
        refine zf_bi (v := (-6)) (pc' := 21) dX8_does_19 rfl rfl ?_
        refine zf_iv (k := 125) (pc' := 24) (r := []) dX8_does_21 rfl rfl rfl rfl (by decide) rfl rfl rfl (zr_125 (by omega) h) (zf_kI (fun x9 m10 h => ?_))
        exact zf_ri dX8_does_24 rfl h
def zt_198 : zx_MT := (8, yX8_draw, cX8_draw, 2, (some FieldType.int), 1, 0)
theorem zm_198 : zx_m 198 = zt_198 := rfl
theorem dX8_draw_r0 : zdcP cX8_draw 0 [(.aload_n 0, 1), (.aload_n 0, 1), (.getfield 31, 3), (.ldc_w 299, 3), (.imul, 1), (.sipush 12345, 3), (.iadd, 1), (.putfield 31, 3), (.aload_n 0, 1), (.getfield 31, 3), (.bipush 16, 2), (.iushr, 1), (.iload_n 1, 1), (.irem, 1), (.ireturn, 1)] := zdcA_ok (by decide +kernel)
theorem dX8_draw_0 : decode cX8_draw 0 = .ok (.aload_n 0, 1) := dX8_draw_r0.1
theorem dX8_draw_1 : decode cX8_draw 1 = .ok (.aload_n 0, 1) := dX8_draw_r0.2.1
theorem dX8_draw_2 : decode cX8_draw 2 = .ok (.getfield 31, 3) := dX8_draw_r0.2.2.1
theorem dX8_draw_5 : decode cX8_draw 5 = .ok (.ldc_w 299, 3) := dX8_draw_r0.2.2.2.1
theorem dX8_draw_8 : decode cX8_draw 8 = .ok (.imul, 1) := dX8_draw_r0.2.2.2.2.1
theorem dX8_draw_9 : decode cX8_draw 9 = .ok (.sipush 12345, 3) := dX8_draw_r0.2.2.2.2.2.1
theorem dX8_draw_12 : decode cX8_draw 12 = .ok (.iadd, 1) := dX8_draw_r0.2.2.2.2.2.2.1
theorem dX8_draw_13 : decode cX8_draw 13 = .ok (.putfield 31, 3) := dX8_draw_r0.2.2.2.2.2.2.2.1
theorem dX8_draw_16 : decode cX8_draw 16 = .ok (.aload_n 0, 1) := dX8_draw_r0.2.2.2.2.2.2.2.2.1
theorem dX8_draw_17 : decode cX8_draw 17 = .ok (.getfield 31, 3) := dX8_draw_r0.2.2.2.2.2.2.2.2.2.1
theorem dX8_draw_20 : decode cX8_draw 20 = .ok (.bipush 16, 2) := dX8_draw_r0.2.2.2.2.2.2.2.2.2.2.1
theorem dX8_draw_22 : decode cX8_draw 22 = .ok (.iushr, 1) := dX8_draw_r0.2.2.2.2.2.2.2.2.2.2.2.1
theorem dX8_draw_23 : decode cX8_draw 23 = .ok (.iload_n 1, 1) := dX8_draw_r0.2.2.2.2.2.2.2.2.2.2.2.2.1
theorem dX8_draw_24 : decode cX8_draw 24 = .ok (.irem, 1) := dX8_draw_r0.2.2.2.2.2.2.2.2.2.2.2.2.2.1
theorem dX8_draw_25 : decode cX8_draw 25 = .ok (.ireturn, 1) := dX8_draw_r0.2.2.2.2.2.2.2.2.2.2.2.2.2.2.1
def wp_198 (v1 : Int32) (m : zf_Me) (Q : Int32 → zf_Me → Prop) : Prop := (∀ m1, m1 = zf_u m 63 12 (((m.1 63 12) * 1103515245) + 12345) → (¬ (Int32.toInt v1) = 0 ∧ Q ((((Int32.toUInt32 (m1.1 63 12)) >>> ((Int32.toUInt32 16) &&& Int32.toUInt32 31)).toInt32) - (((Int32.toUInt32 (m1.1 63 12)) >>> ((Int32.toUInt32 16) &&& Int32.toUInt32 31)).toInt32) / v1 * v1) m1))
theorem zr_198 {d : Nat} (hd : 0 ≤ d) {v1 : Int32} {Q : Int32 → zf_Me → Prop} {m : zf_Me} (h : wp_198 v1 m Q) : zf_M d 198 [.inr (.inr (1, 63)), .inl v1] m (zf_I Q) := by
  unfold wp_198 at h
  refine zf_M_of (Nat.le_of_ble_eq_true rfl) zm_198 (L := [some (.inr (.inr (1, 63))), some (.inl v1)]) rfl ?_
  refine zf_ld (pc' := 1) (v := .inr (.inr (1, 63))) dX8_draw_0 rfl (fun _ _ _ => rfl) rfl rfl rfl ?_
  refine zf_ld (pc' := 2) (v := .inr (.inr (1, 63))) dX8_draw_1 rfl (fun _ _ _ => rfl) rfl rfl rfl ?_
  refine zf_gfi (pc' := 5) dX8_draw_2 rfl rfl (by decide) rfl rfl ?_
  refine zf_ldc (ix := 299) (v := 1103515245) (pc' := 8) dX8_draw_5 rfl (fun _ _ _ => rfl) rfl rfl ?_
  refine zf_in (pc' := 9) (S' := [.inl ((m.1 63 12) * 1103515245), .inr (.inr (1, 63))]) dX8_draw_8 rfl (fun _ _ _ => rfl) ?_
  refine zf_si (v := 12345) (pc' := 12) dX8_draw_9 rfl rfl ?_
  refine zf_in (pc' := 13) (S' := [.inl (((m.1 63 12) * 1103515245) + 12345), .inr (.inr (1, 63))]) dX8_draw_12 rfl (fun _ _ _ => rfl) ?_
  refine zf_pf (pc' := 16) dX8_draw_13 rfl rfl (by decide) rfl rfl rfl (fun m1 e2 => ?_)
  replace h := h m1 e2
  refine zf_ld (pc' := 17) (v := .inr (.inr (1, 63))) dX8_draw_16 rfl (fun _ _ _ => rfl) rfl rfl rfl ?_
  refine zf_gfi (pc' := 20) dX8_draw_17 rfl rfl (by decide) rfl rfl ?_
  refine zf_bi (v := 16) (pc' := 22) dX8_draw_20 rfl rfl ?_
  refine zf_in (pc' := 23) (S' := [.inl (((Int32.toUInt32 (m1.1 63 12)) >>> ((Int32.toUInt32 16) &&& Int32.toUInt32 31)).toInt32)]) dX8_draw_22 rfl (fun _ _ _ => rfl) ?_
  refine zf_ld (pc' := 24) (v := .inl v1) dX8_draw_23 rfl (fun _ _ _ => rfl) rfl rfl rfl ?_
  refine zf_rem (pc' := 25) dX8_draw_24 rfl (fun z => h.1 (congrArg Int32.toInt z)) ?_
  replace h := h.2
  exact zf_ri dX8_draw_25 rfl h
def zt_199 : zx_MT := (8, yX8_summer, cX8_summer, 8, (some FieldType.int), 1, 0)
theorem zm_199 : zx_m 199 = zt_199 := rfl
theorem dX8_summer_r0 : zdcP cX8_summer 0 [(.iload_n 1, 1), (.iconst 1, 1), (.if_icmp .lt 9, 3), (.iload_n 1, 1), (.bipush 60, 2), (.if_icmp .le 10, 3), (.aload_n 0, 1), (.bipush (-6), 2), (.invokevirtual 115, 3), (.ireturn, 1), (.aload_n 0, 1), (.getfield 207, 3), (.istore_n 2, 1), (.iconst 0, 1), (.istore_n 3, 1), (.iload_n 3, 1)] := zdcA_ok (by decide +kernel)
theorem dX8_summer_0 : decode cX8_summer 0 = .ok (.iload_n 1, 1) := dX8_summer_r0.1
theorem dX8_summer_1 : decode cX8_summer 1 = .ok (.iconst 1, 1) := dX8_summer_r0.2.1
theorem dX8_summer_2 : decode cX8_summer 2 = .ok (.if_icmp .lt 9, 3) := dX8_summer_r0.2.2.1
theorem dX8_summer_5 : decode cX8_summer 5 = .ok (.iload_n 1, 1) := dX8_summer_r0.2.2.2.1
theorem dX8_summer_6 : decode cX8_summer 6 = .ok (.bipush 60, 2) := dX8_summer_r0.2.2.2.2.1
theorem dX8_summer_8 : decode cX8_summer 8 = .ok (.if_icmp .le 10, 3) := dX8_summer_r0.2.2.2.2.2.1
theorem dX8_summer_11 : decode cX8_summer 11 = .ok (.aload_n 0, 1) := dX8_summer_r0.2.2.2.2.2.2.1
theorem dX8_summer_12 : decode cX8_summer 12 = .ok (.bipush (-6), 2) := dX8_summer_r0.2.2.2.2.2.2.2.1
theorem dX8_summer_14 : decode cX8_summer 14 = .ok (.invokevirtual 115, 3) := dX8_summer_r0.2.2.2.2.2.2.2.2.1
theorem dX8_summer_17 : decode cX8_summer 17 = .ok (.ireturn, 1) := dX8_summer_r0.2.2.2.2.2.2.2.2.2.1
theorem dX8_summer_18 : decode cX8_summer 18 = .ok (.aload_n 0, 1) := dX8_summer_r0.2.2.2.2.2.2.2.2.2.2.1
theorem dX8_summer_19 : decode cX8_summer 19 = .ok (.getfield 207, 3) := dX8_summer_r0.2.2.2.2.2.2.2.2.2.2.2.1
theorem dX8_summer_22 : decode cX8_summer 22 = .ok (.istore_n 2, 1) := dX8_summer_r0.2.2.2.2.2.2.2.2.2.2.2.2.1
theorem dX8_summer_23 : decode cX8_summer 23 = .ok (.iconst 0, 1) := dX8_summer_r0.2.2.2.2.2.2.2.2.2.2.2.2.2.1
theorem dX8_summer_24 : decode cX8_summer 24 = .ok (.istore_n 3, 1) := dX8_summer_r0.2.2.2.2.2.2.2.2.2.2.2.2.2.2.1
theorem dX8_summer_25 : decode cX8_summer 25 = .ok (.iload_n 3, 1) := dX8_summer_r0.2.2.2.2.2.2.2.2.2.2.2.2.2.2.2.1
theorem dX8_summer_r26 : zdcP cX8_summer 26 [(.iload_n 1, 1), (.if_icmp .ge 110, 3), (.aload_n 0, 1), (.invokevirtual 226, 3), (.istore 4, 2), (.iconst 0, 1), (.istore 5, 2), (.iconst 0, 1), (.istore 6, 2), (.iload 6, 2), (.bipush 9, 2), (.if_icmp .gt 21, 3), (.iload 5, 2), (.iload 4, 2), (.iload 6, 2), (.ishr, 1)] := zdcA_ok (by decide +kernel)
theorem dX8_summer_26 : decode cX8_summer 26 = .ok (.iload_n 1, 1) := dX8_summer_r26.1
theorem dX8_summer_27 : decode cX8_summer 27 = .ok (.if_icmp .ge 110, 3) := dX8_summer_r26.2.1
theorem dX8_summer_30 : decode cX8_summer 30 = .ok (.aload_n 0, 1) := dX8_summer_r26.2.2.1
theorem dX8_summer_31 : decode cX8_summer 31 = .ok (.invokevirtual 226, 3) := dX8_summer_r26.2.2.2.1
theorem dX8_summer_34 : decode cX8_summer 34 = .ok (.istore 4, 2) := dX8_summer_r26.2.2.2.2.1
theorem dX8_summer_36 : decode cX8_summer 36 = .ok (.iconst 0, 1) := dX8_summer_r26.2.2.2.2.2.1
theorem dX8_summer_37 : decode cX8_summer 37 = .ok (.istore 5, 2) := dX8_summer_r26.2.2.2.2.2.2.1
theorem dX8_summer_39 : decode cX8_summer 39 = .ok (.iconst 0, 1) := dX8_summer_r26.2.2.2.2.2.2.2.1
theorem dX8_summer_40 : decode cX8_summer 40 = .ok (.istore 6, 2) := dX8_summer_r26.2.2.2.2.2.2.2.2.1
theorem dX8_summer_42 : decode cX8_summer 42 = .ok (.iload 6, 2) := dX8_summer_r26.2.2.2.2.2.2.2.2.2.1
theorem dX8_summer_44 : decode cX8_summer 44 = .ok (.bipush 9, 2) := dX8_summer_r26.2.2.2.2.2.2.2.2.2.2.1
theorem dX8_summer_46 : decode cX8_summer 46 = .ok (.if_icmp .gt 21, 3) := dX8_summer_r26.2.2.2.2.2.2.2.2.2.2.2.1
theorem dX8_summer_49 : decode cX8_summer 49 = .ok (.iload 5, 2) := dX8_summer_r26.2.2.2.2.2.2.2.2.2.2.2.2.1
theorem dX8_summer_51 : decode cX8_summer 51 = .ok (.iload 4, 2) := dX8_summer_r26.2.2.2.2.2.2.2.2.2.2.2.2.2.1
theorem dX8_summer_53 : decode cX8_summer 53 = .ok (.iload 6, 2) := dX8_summer_r26.2.2.2.2.2.2.2.2.2.2.2.2.2.2.1
theorem dX8_summer_55 : decode cX8_summer 55 = .ok (.ishr, 1) := dX8_summer_r26.2.2.2.2.2.2.2.2.2.2.2.2.2.2.2.1
theorem dX8_summer_r56 : zdcP cX8_summer 56 [(.iconst 1, 1), (.iand, 1), (.iadd, 1), (.istore 5, 2), (.iinc 6 1, 3), (.goto (-22), 3), (.iload 5, 2), (.ifCond .ne 6, 3), (.goto 59, 3), (.aload_n 0, 1), (.iload 5, 2), (.invokevirtual 300, 3), (.istore 6, 2), (.iconst 0, 1), (.istore 7, 2), (.iload 7, 2)] := zdcA_ok (by decide +kernel)
theorem dX8_summer_56 : decode cX8_summer 56 = .ok (.iconst 1, 1) := dX8_summer_r56.1
theorem dX8_summer_57 : decode cX8_summer 57 = .ok (.iand, 1) := dX8_summer_r56.2.1
theorem dX8_summer_58 : decode cX8_summer 58 = .ok (.iadd, 1) := dX8_summer_r56.2.2.1
theorem dX8_summer_59 : decode cX8_summer 59 = .ok (.istore 5, 2) := dX8_summer_r56.2.2.2.1
theorem dX8_summer_61 : decode cX8_summer 61 = .ok (.iinc 6 1, 3) := dX8_summer_r56.2.2.2.2.1
theorem dX8_summer_64 : decode cX8_summer 64 = .ok (.goto (-22), 3) := dX8_summer_r56.2.2.2.2.2.1
theorem dX8_summer_67 : decode cX8_summer 67 = .ok (.iload 5, 2) := dX8_summer_r56.2.2.2.2.2.2.1
theorem dX8_summer_69 : decode cX8_summer 69 = .ok (.ifCond .ne 6, 3) := dX8_summer_r56.2.2.2.2.2.2.2.1
theorem dX8_summer_72 : decode cX8_summer 72 = .ok (.goto 59, 3) := dX8_summer_r56.2.2.2.2.2.2.2.2.1
theorem dX8_summer_75 : decode cX8_summer 75 = .ok (.aload_n 0, 1) := dX8_summer_r56.2.2.2.2.2.2.2.2.2.1
theorem dX8_summer_76 : decode cX8_summer 76 = .ok (.iload 5, 2) := dX8_summer_r56.2.2.2.2.2.2.2.2.2.2.1
theorem dX8_summer_78 : decode cX8_summer 78 = .ok (.invokevirtual 300, 3) := dX8_summer_r56.2.2.2.2.2.2.2.2.2.2.2.1
theorem dX8_summer_81 : decode cX8_summer 81 = .ok (.istore 6, 2) := dX8_summer_r56.2.2.2.2.2.2.2.2.2.2.2.2.1
theorem dX8_summer_83 : decode cX8_summer 83 = .ok (.iconst 0, 1) := dX8_summer_r56.2.2.2.2.2.2.2.2.2.2.2.2.2.1
theorem dX8_summer_84 : decode cX8_summer 84 = .ok (.istore 7, 2) := dX8_summer_r56.2.2.2.2.2.2.2.2.2.2.2.2.2.2.1
theorem dX8_summer_86 : decode cX8_summer 86 = .ok (.iload 7, 2) := dX8_summer_r56.2.2.2.2.2.2.2.2.2.2.2.2.2.2.2.1
theorem dX8_summer_r88 : zdcP cX8_summer 88 [(.bipush 9, 2), (.if_icmp .gt 41, 3), (.iload 6, 2), (.ifCond .lt 36, 3), (.iload 4, 2), (.iload 7, 2), (.ishr, 1), (.iconst 1, 1), (.iand, 1), (.ifCond .ne 6, 3), (.goto 17, 3), (.iload 6, 2), (.ifCond .ne 9, 3), (.aload_n 0, 1), (.iload 7, 2), (.invokevirtual 196, 3)] := zdcA_ok (by decide +kernel)
theorem dX8_summer_88 : decode cX8_summer 88 = .ok (.bipush 9, 2) := dX8_summer_r88.1
theorem dX8_summer_90 : decode cX8_summer 90 = .ok (.if_icmp .gt 41, 3) := dX8_summer_r88.2.1
theorem dX8_summer_93 : decode cX8_summer 93 = .ok (.iload 6, 2) := dX8_summer_r88.2.2.1
theorem dX8_summer_95 : decode cX8_summer 95 = .ok (.ifCond .lt 36, 3) := dX8_summer_r88.2.2.2.1
theorem dX8_summer_98 : decode cX8_summer 98 = .ok (.iload 4, 2) := dX8_summer_r88.2.2.2.2.1
theorem dX8_summer_100 : decode cX8_summer 100 = .ok (.iload 7, 2) := dX8_summer_r88.2.2.2.2.2.1
theorem dX8_summer_102 : decode cX8_summer 102 = .ok (.ishr, 1) := dX8_summer_r88.2.2.2.2.2.2.1
theorem dX8_summer_103 : decode cX8_summer 103 = .ok (.iconst 1, 1) := dX8_summer_r88.2.2.2.2.2.2.2.1
theorem dX8_summer_104 : decode cX8_summer 104 = .ok (.iand, 1) := dX8_summer_r88.2.2.2.2.2.2.2.2.1
theorem dX8_summer_105 : decode cX8_summer 105 = .ok (.ifCond .ne 6, 3) := dX8_summer_r88.2.2.2.2.2.2.2.2.2.1
theorem dX8_summer_108 : decode cX8_summer 108 = .ok (.goto 17, 3) := dX8_summer_r88.2.2.2.2.2.2.2.2.2.2.1
theorem dX8_summer_111 : decode cX8_summer 111 = .ok (.iload 6, 2) := dX8_summer_r88.2.2.2.2.2.2.2.2.2.2.2.1
theorem dX8_summer_113 : decode cX8_summer 113 = .ok (.ifCond .ne 9, 3) := dX8_summer_r88.2.2.2.2.2.2.2.2.2.2.2.2.1
theorem dX8_summer_116 : decode cX8_summer 116 = .ok (.aload_n 0, 1) := dX8_summer_r88.2.2.2.2.2.2.2.2.2.2.2.2.2.1
theorem dX8_summer_117 : decode cX8_summer 117 = .ok (.iload 7, 2) := dX8_summer_r88.2.2.2.2.2.2.2.2.2.2.2.2.2.2.1
theorem dX8_summer_119 : decode cX8_summer 119 = .ok (.invokevirtual 196, 3) := dX8_summer_r88.2.2.2.2.2.2.2.2.2.2.2.2.2.2.2.1
theorem dX8_summer_r122 : zdcP cX8_summer 122 [(.iinc 6 (-1), 3), (.iinc 7 1, 3), (.goto (-42), 3), (.iinc 3 1, 3), (.goto (-109), 3), (.aload_n 0, 1), (.getfield 207, 3), (.iload_n 2, 1), (.isub, 1), (.ireturn, 1)] := zdcA_ok (by decide +kernel)
theorem dX8_summer_122 : decode cX8_summer 122 = .ok (.iinc 6 (-1), 3) := dX8_summer_r122.1
theorem dX8_summer_125 : decode cX8_summer 125 = .ok (.iinc 7 1, 3) := dX8_summer_r122.2.1
theorem dX8_summer_128 : decode cX8_summer 128 = .ok (.goto (-42), 3) := dX8_summer_r122.2.2.1
theorem dX8_summer_131 : decode cX8_summer 131 = .ok (.iinc 3 1, 3) := dX8_summer_r122.2.2.2.1
theorem dX8_summer_134 : decode cX8_summer 134 = .ok (.goto (-109), 3) := dX8_summer_r122.2.2.2.2.1
theorem dX8_summer_137 : decode cX8_summer 137 = .ok (.aload_n 0, 1) := dX8_summer_r122.2.2.2.2.2.1
theorem dX8_summer_138 : decode cX8_summer 138 = .ok (.getfield 207, 3) := dX8_summer_r122.2.2.2.2.2.2.1
theorem dX8_summer_141 : decode cX8_summer 141 = .ok (.iload_n 2, 1) := dX8_summer_r122.2.2.2.2.2.2.2.1
theorem dX8_summer_142 : decode cX8_summer 142 = .ok (.isub, 1) := dX8_summer_r122.2.2.2.2.2.2.2.2.1
theorem dX8_summer_143 : decode cX8_summer 143 = .ok (.ireturn, 1) := dX8_summer_r122.2.2.2.2.2.2.2.2.2.1
def wq_199_86 (v1 : Int32) (F25 : Int32 → Int32 → zf_Me → Prop) (Q : Int32 → zf_Me → Prop) : Nat → Int32 → Int32 → Int32 → Int32 → Int32 → zf_Me → Prop
  | 0, _, _, _, _, _, _ => False
  | n + 1, v2, v3, v4, v6, v7, m => ((v7.toInt > 9 → F25 v2 (v3 + 1) m) ∧ (v7.toInt ≤ 9 → ((v6.toInt < 0 → F25 v2 (v3 + 1) m) ∧ (v6.toInt ≥ 0 → ((¬ (((v4 >>> (v7 &&& 31)) &&& 1)).toInt = 0 → ((¬ v6.toInt = 0 → wq_199_86 v1 F25 Q n v2 v3 v4 (v6 + (-1)) (v7 + 1) m) ∧ (v6.toInt = 0 → wp_169 v7 m (fun m8 => wq_199_86 v1 F25 Q n v2 v3 v4 (v6 + (-1)) (v7 + 1) m8)))) ∧ ((((v4 >>> (v7 &&& 31)) &&& 1)).toInt = 0 → wq_199_86 v1 F25 Q n v2 v3 v4 v6 (v7 + 1) m))))))
theorem zq_199_86 {d : Nat} (hd : 4 ≤ d) {v1 : Int32} {F25 : Int32 → Int32 → zf_Me → Prop} {Q : Int32 → zf_Me → Prop} (hF25 : ∀ (v2 : Int32) (v3 : Int32) (m : zf_Me), F25 v2 v3 m → zf_W none 0 0 d zt_199 25 [some (.inr (.inr (1, 63))), some (.inl v1), some (.inl v2), some (.inl v3), none, none, none, none] [] m (zf_I Q)) : ∀ (n : Nat) (v2 : Int32) (v3 : Int32) (v4 : Int32) (v6 : Int32) (v7 : Int32) (m : zf_Me), wq_199_86 v1 F25 Q n v2 v3 v4 v6 v7 m → zf_W none 0 0 d zt_199 86 [some (.inr (.inr (1, 63))), some (.inl v1), some (.inl v2), some (.inl v3), some (.inl v4), none, some (.inl v6), some (.inl v7)] [] m (zf_I Q) := by
  obtain ⟨e, rfl⟩ : ∃ z, d = z + 1 := ⟨d - 1, by omega⟩
  intro n
  induction n with
  | zero =>
    intro v2 v3 v4 v6 v7 m h
    exact h.elim
  | succ n ih =>
    intro v2 v3 v4 v6 v7 m h
    unfold wq_199_86 at h
    refine zf_ld (pc' := 88) (v := .inl v7) dX8_summer_86 rfl (fun _ _ _ => rfl) rfl rfl rfl ?_
    refine zf_bi (v := 9) (pc' := 90) dX8_summer_88 rfl rfl ?_
    refine zf_icmp_gt (tgt := 131) (pc' := 93) dX8_summer_90 rfl rfl (fun g => ?_) (fun g => ?_)
    · replace h := h.1 g
      refine zf_ii (y := (v3 + 1)) (L2 := [some (.inr (.inr (1, 63))), some (.inl v1), some (.inl v2), some (.inl (v3 + 1)), some (.inl v4), none, some (.inl v6), some (.inl v7)]) (pc' := 134) dX8_summer_131 rfl rfl rfl rfl rfl ?_
      refine zf_goto (tgt := 25) dX8_summer_134 rfl ?_
      exact zf_lo (hF25 _ _ _ h) ⟨rfl, rfl, rfl, rfl, trivial⟩
    · replace h := h.2 g
      refine zf_ld (pc' := 95) (v := .inl v6) dX8_summer_93 rfl (fun _ _ _ => rfl) rfl rfl rfl ?_
      refine zf_if_lt (tgt := 131) (pc' := 98) dX8_summer_95 rfl rfl (fun g => ?_) (fun g => ?_)
      · replace h := h.1 g
        refine zf_ii (y := (v3 + 1)) (L2 := [some (.inr (.inr (1, 63))), some (.inl v1), some (.inl v2), some (.inl (v3 + 1)), some (.inl v4), none, some (.inl v6), some (.inl v7)]) (pc' := 134) dX8_summer_131 rfl rfl rfl rfl rfl ?_
        refine zf_goto (tgt := 25) dX8_summer_134 rfl ?_
        exact zf_lo (hF25 _ _ _ h) ⟨rfl, rfl, rfl, rfl, trivial⟩
      · replace h := h.2 g
        refine zf_ld (pc' := 100) (v := .inl v4) dX8_summer_98 rfl (fun _ _ _ => rfl) rfl rfl rfl ?_
        refine zf_ld (pc' := 102) (v := .inl v7) dX8_summer_100 rfl (fun _ _ _ => rfl) rfl rfl rfl ?_
        refine zf_in (pc' := 103) (S' := [.inl (v4 >>> (v7 &&& 31))]) dX8_summer_102 rfl (fun _ _ _ => rfl) ?_
        refine zf_ic (v := 1) (pc' := 104) dX8_summer_103 rfl rfl ?_
        refine zf_in (pc' := 105) (S' := [.inl ((v4 >>> (v7 &&& 31)) &&& 1)]) dX8_summer_104 rfl (fun _ _ _ => rfl) ?_
        refine zf_if_ne (tgt := 111) (pc' := 108) dX8_summer_105 rfl rfl (fun g => ?_) (fun g => ?_)
        · replace h := h.1 g
          refine zf_ld (pc' := 113) (v := .inl v6) dX8_summer_111 rfl (fun _ _ _ => rfl) rfl rfl rfl ?_
          refine zf_if_ne (tgt := 122) (pc' := 116) dX8_summer_113 rfl rfl (fun g => ?_) (fun g => ?_)
          · replace h := h.1 g
            refine zf_ii (y := (v6 + (-1))) (L2 := [some (.inr (.inr (1, 63))), some (.inl v1), some (.inl v2), some (.inl v3), some (.inl v4), none, some (.inl (v6 + (-1))), some (.inl v7)]) (pc' := 125) dX8_summer_122 rfl rfl rfl rfl rfl ?_
            refine zf_ii (y := (v7 + 1)) (L2 := [some (.inr (.inr (1, 63))), some (.inl v1), some (.inl v2), some (.inl v3), some (.inl v4), none, some (.inl (v6 + (-1))), some (.inl (v7 + 1))]) (pc' := 128) dX8_summer_125 rfl rfl rfl rfl rfl ?_
            refine zf_goto (tgt := 86) dX8_summer_128 rfl ?_
            exact zf_lo (ih _ _ _ _ _ _ h) ⟨rfl, rfl, rfl, rfl, rfl, rfl, rfl, trivial⟩
          · replace h := h.2 g
            refine zf_ld (pc' := 117) (v := .inr (.inr (1, 63))) dX8_summer_116 rfl (fun _ _ _ => rfl) rfl rfl rfl ?_
            refine zf_ld (pc' := 119) (v := .inl v7) dX8_summer_117 rfl (fun _ _ _ => rfl) rfl rfl rfl ?_
            refine zf_iv (k := 169) (pc' := 122) (r := []) dX8_summer_119 rfl rfl rfl rfl (by decide) rfl rfl rfl (zr_169 (by omega) h) (zf_kO (fun m8 h => ?_))
            refine zf_ii (y := (v6 + (-1))) (L2 := [some (.inr (.inr (1, 63))), some (.inl v1), some (.inl v2), some (.inl v3), some (.inl v4), none, some (.inl (v6 + (-1))), some (.inl v7)]) (pc' := 125) dX8_summer_122 rfl rfl rfl rfl rfl ?_
            refine zf_ii (y := (v7 + 1)) (L2 := [some (.inr (.inr (1, 63))), some (.inl v1), some (.inl v2), some (.inl v3), some (.inl v4), none, some (.inl (v6 + (-1))), some (.inl (v7 + 1))]) (pc' := 128) dX8_summer_125 rfl rfl rfl rfl rfl ?_
            refine zf_goto (tgt := 86) dX8_summer_128 rfl ?_
            exact zf_lo (ih _ _ _ _ _ _ h) ⟨rfl, rfl, rfl, rfl, rfl, rfl, rfl, trivial⟩
        · replace h := h.2 g
          refine zf_goto (tgt := 125) dX8_summer_108 rfl ?_
          refine zf_ii (y := (v7 + 1)) (L2 := [some (.inr (.inr (1, 63))), some (.inl v1), some (.inl v2), some (.inl v3), some (.inl v4), none, some (.inl v6), some (.inl (v7 + 1))]) (pc' := 128) dX8_summer_125 rfl rfl rfl rfl rfl ?_
          refine zf_goto (tgt := 86) dX8_summer_128 rfl ?_
          exact zf_lo (ih _ _ _ _ _ _ h) ⟨rfl, rfl, rfl, rfl, rfl, rfl, rfl, trivial⟩
def wq_199_42 (v1 : Int32) (F25 : Int32 → Int32 → zf_Me → Prop) (Q : Int32 → zf_Me → Prop) : Nat → Int32 → Int32 → Int32 → Int32 → Int32 → zf_Me → Prop
  | 0, _, _, _, _, _, _ => False
  | n + 1, v2, v3, v4, v5, v6, m => ((v6.toInt > 9 → ((¬ v5.toInt = 0 → wp_198 v5 m (fun x5 m6 => (∃ n86, wq_199_86 v1 F25 Q n86 v2 v3 v4 x5 0 m6))) ∧ (v5.toInt = 0 → F25 v2 (v3 + 1) m))) ∧ (v6.toInt ≤ 9 → wq_199_42 v1 F25 Q n v2 v3 v4 (v5 + ((v4 >>> (v6 &&& 31)) &&& 1)) (v6 + 1) m))
theorem zq_199_42 {d : Nat} (hd : 4 ≤ d) {v1 : Int32} {F25 : Int32 → Int32 → zf_Me → Prop} {Q : Int32 → zf_Me → Prop} (hF25 : ∀ (v2 : Int32) (v3 : Int32) (m : zf_Me), F25 v2 v3 m → zf_W none 0 0 d zt_199 25 [some (.inr (.inr (1, 63))), some (.inl v1), some (.inl v2), some (.inl v3), none, none, none, none] [] m (zf_I Q)) : ∀ (n : Nat) (v2 : Int32) (v3 : Int32) (v4 : Int32) (v5 : Int32) (v6 : Int32) (m : zf_Me), wq_199_42 v1 F25 Q n v2 v3 v4 v5 v6 m → zf_W none 0 0 d zt_199 42 [some (.inr (.inr (1, 63))), some (.inl v1), some (.inl v2), some (.inl v3), some (.inl v4), some (.inl v5), some (.inl v6), none] [] m (zf_I Q) := by
  obtain ⟨e, rfl⟩ : ∃ z, d = z + 1 := ⟨d - 1, by omega⟩
  intro n
  induction n with
  | zero =>
    intro v2 v3 v4 v5 v6 m h
    exact h.elim
  | succ n ih =>
    intro v2 v3 v4 v5 v6 m h
    unfold wq_199_42 at h
    refine zf_ld (pc' := 44) (v := .inl v6) dX8_summer_42 rfl (fun _ _ _ => rfl) rfl rfl rfl ?_
    refine zf_bi (v := 9) (pc' := 46) dX8_summer_44 rfl rfl ?_
    refine zf_icmp_gt (tgt := 67) (pc' := 49) dX8_summer_46 rfl rfl (fun g => ?_) (fun g => ?_)
    · replace h := h.1 g
      refine zf_ld (pc' := 69) (v := .inl v5) dX8_summer_67 rfl (fun _ _ _ => rfl) rfl rfl rfl ?_
      refine zf_if_ne (tgt := 75) (pc' := 72) dX8_summer_69 rfl rfl (fun g => ?_) (fun g => ?_)
      · replace h := h.1 g
        refine zf_ld (pc' := 76) (v := .inr (.inr (1, 63))) dX8_summer_75 rfl (fun _ _ _ => rfl) rfl rfl rfl ?_
        refine zf_ld (pc' := 78) (v := .inl v5) dX8_summer_76 rfl (fun _ _ _ => rfl) rfl rfl rfl ?_
        refine zf_iv (k := 198) (pc' := 81) (r := []) dX8_summer_78 rfl rfl rfl rfl (by decide) rfl rfl rfl (zr_198 (by omega) h) (zf_kI (fun x5 m6 h => ?_))
        refine zf_st (pc' := 83) (L2 := [some (.inr (.inr (1, 63))), some (.inl v1), some (.inl v2), some (.inl v3), some (.inl v4), some (.inl v5), some (.inl x5), none]) dX8_summer_81 rfl (fun _ _ _ => rfl) rfl rfl rfl rfl rfl rfl ?_
        refine zf_ic (v := 0) (pc' := 84) dX8_summer_83 rfl rfl ?_
        refine zf_st (pc' := 86) (L2 := [some (.inr (.inr (1, 63))), some (.inl v1), some (.inl v2), some (.inl v3), some (.inl v4), some (.inl v5), some (.inl x5), some (.inl 0)]) dX8_summer_84 rfl (fun _ _ _ => rfl) rfl rfl rfl rfl rfl rfl ?_
        obtain ⟨n86, h⟩ := h
        exact zf_lo (zq_199_86 (by omega) hF25 n86 _ _ _ _ _ _ h) ⟨rfl, rfl, rfl, rfl, rfl, rfl, rfl, trivial⟩
      · replace h := h.2 g
        refine zf_goto (tgt := 131) dX8_summer_72 rfl ?_
        refine zf_ii (y := (v3 + 1)) (L2 := [some (.inr (.inr (1, 63))), some (.inl v1), some (.inl v2), some (.inl (v3 + 1)), some (.inl v4), some (.inl v5), some (.inl v6), none]) (pc' := 134) dX8_summer_131 rfl rfl rfl rfl rfl ?_
        refine zf_goto (tgt := 25) dX8_summer_134 rfl ?_
        exact zf_lo (hF25 _ _ _ h) ⟨rfl, rfl, rfl, rfl, trivial⟩
    · replace h := h.2 g
      refine zf_ld (pc' := 51) (v := .inl v5) dX8_summer_49 rfl (fun _ _ _ => rfl) rfl rfl rfl ?_
      refine zf_ld (pc' := 53) (v := .inl v4) dX8_summer_51 rfl (fun _ _ _ => rfl) rfl rfl rfl ?_
      refine zf_ld (pc' := 55) (v := .inl v6) dX8_summer_53 rfl (fun _ _ _ => rfl) rfl rfl rfl ?_
      refine zf_in (pc' := 56) (S' := [.inl (v4 >>> (v6 &&& 31)), .inl v5]) dX8_summer_55 rfl (fun _ _ _ => rfl) ?_
      refine zf_ic (v := 1) (pc' := 57) dX8_summer_56 rfl rfl ?_
      refine zf_in (pc' := 58) (S' := [.inl ((v4 >>> (v6 &&& 31)) &&& 1), .inl v5]) dX8_summer_57 rfl (fun _ _ _ => rfl) ?_
      refine zf_in (pc' := 59) (S' := [.inl (v5 + ((v4 >>> (v6 &&& 31)) &&& 1))]) dX8_summer_58 rfl (fun _ _ _ => rfl) ?_
      refine zf_st (pc' := 61) (L2 := [some (.inr (.inr (1, 63))), some (.inl v1), some (.inl v2), some (.inl v3), some (.inl v4), some (.inl (v5 + ((v4 >>> (v6 &&& 31)) &&& 1))), some (.inl v6), none]) dX8_summer_59 rfl (fun _ _ _ => rfl) rfl rfl rfl rfl rfl rfl ?_
      refine zf_ii (y := (v6 + 1)) (L2 := [some (.inr (.inr (1, 63))), some (.inl v1), some (.inl v2), some (.inl v3), some (.inl v4), some (.inl (v5 + ((v4 >>> (v6 &&& 31)) &&& 1))), some (.inl (v6 + 1)), none]) (pc' := 64) dX8_summer_61 rfl rfl rfl rfl rfl ?_
      refine zf_goto (tgt := 42) dX8_summer_64 rfl ?_
      exact zf_lo (ih _ _ _ _ _ _ h) ⟨rfl, rfl, rfl, rfl, rfl, rfl, rfl, trivial⟩
def wq_199_25 (v1 : Int32) (Q : Int32 → zf_Me → Prop) : Nat → Int32 → Int32 → zf_Me → Prop
  | 0, _, _, _ => False
  | n + 1, v2, v3, m => ((v3.toInt ≥ v1.toInt → Q ((m.1 63 10) - v2) m) ∧ (v3.toInt < v1.toInt → wp_173 m (fun x3 m4 => (∃ n42, wq_199_42 v1 (wq_199_25 v1 Q n) Q n42 v2 v3 x3 0 0 m4))))
theorem zq_199_25 {d : Nat} (hd : 4 ≤ d) {v1 : Int32} {Q : Int32 → zf_Me → Prop} : ∀ (n : Nat) (v2 : Int32) (v3 : Int32) (m : zf_Me), wq_199_25 v1 Q n v2 v3 m → zf_W none 0 0 d zt_199 25 [some (.inr (.inr (1, 63))), some (.inl v1), some (.inl v2), some (.inl v3), none, none, none, none] [] m (zf_I Q) := by
  obtain ⟨e, rfl⟩ : ∃ z, d = z + 1 := ⟨d - 1, by omega⟩
  intro n
  induction n with
  | zero =>
    intro v2 v3 m h
    exact h.elim
  | succ n ih =>
    intro v2 v3 m h
    unfold wq_199_25 at h
    refine zf_ld (pc' := 26) (v := .inl v3) dX8_summer_25 rfl (fun _ _ _ => rfl) rfl rfl rfl ?_
    refine zf_ld (pc' := 27) (v := .inl v1) dX8_summer_26 rfl (fun _ _ _ => rfl) rfl rfl rfl ?_
    refine zf_icmp_ge (tgt := 137) (pc' := 30) dX8_summer_27 rfl rfl (fun g => ?_) (fun g => ?_)
    · replace h := h.1 g
      refine zf_ld (pc' := 138) (v := .inr (.inr (1, 63))) dX8_summer_137 rfl (fun _ _ _ => rfl) rfl rfl rfl ?_
      refine zf_gfi (pc' := 141) dX8_summer_138 rfl rfl (by decide) rfl rfl ?_
      refine zf_ld (pc' := 142) (v := .inl v2) dX8_summer_141 rfl (fun _ _ _ => rfl) rfl rfl rfl ?_
      refine zf_in (pc' := 143) (S' := [.inl ((m.1 63 10) - v2)]) dX8_summer_142 rfl (fun _ _ _ => rfl) ?_
      exact zf_ri dX8_summer_143 rfl h
    · replace h := h.2 g
      refine zf_ld (pc' := 31) (v := .inr (.inr (1, 63))) dX8_summer_30 rfl (fun _ _ _ => rfl) rfl rfl rfl ?_
      refine zf_iv (k := 173) (pc' := 34) (r := []) dX8_summer_31 rfl rfl rfl rfl (by decide) rfl rfl rfl (zr_173 (by omega) h) (zf_kI (fun x3 m4 h => ?_))
      refine zf_st (pc' := 36) (L2 := [some (.inr (.inr (1, 63))), some (.inl v1), some (.inl v2), some (.inl v3), some (.inl x3), none, none, none]) dX8_summer_34 rfl (fun _ _ _ => rfl) rfl rfl rfl rfl rfl rfl ?_
      refine zf_ic (v := 0) (pc' := 37) dX8_summer_36 rfl rfl ?_
      refine zf_st (pc' := 39) (L2 := [some (.inr (.inr (1, 63))), some (.inl v1), some (.inl v2), some (.inl v3), some (.inl x3), some (.inl 0), none, none]) dX8_summer_37 rfl (fun _ _ _ => rfl) rfl rfl rfl rfl rfl rfl ?_
      refine zf_ic (v := 0) (pc' := 40) dX8_summer_39 rfl rfl ?_
      refine zf_st (pc' := 42) (L2 := [some (.inr (.inr (1, 63))), some (.inl v1), some (.inl v2), some (.inl v3), some (.inl x3), some (.inl 0), some (.inl 0), none]) dX8_summer_40 rfl (fun _ _ _ => rfl) rfl rfl rfl rfl rfl rfl ?_
      obtain ⟨n42, h⟩ := h
      exact zf_lo (zq_199_42 (by omega) ih n42 _ _ _ _ _ _ h) ⟨rfl, rfl, rfl, rfl, rfl, rfl, rfl, trivial⟩
def wp_199 (v1 : Int32) (m : zf_Me) (Q : Int32 → zf_Me → Prop) : Prop := ((v1.toInt < 1 → wp_125 (-6) m (fun x1 m2 => Q x1 m2)) ∧ (v1.toInt ≥ 1 → ((v1.toInt ≤ 60 → (∃ n25, wq_199_25 v1 Q n25 (m.1 63 10) 0 m)) ∧ (v1.toInt > 60 → wp_125 (-6) m (fun x9 m10 => Q x9 m10)))))
theorem zr_199 {d : Nat} (hd : 4 ≤ d) {v1 : Int32} {Q : Int32 → zf_Me → Prop} {m : zf_Me} (h : wp_199 v1 m Q) : zf_M d 199 [.inr (.inr (1, 63)), .inl v1] m (zf_I Q) := by
  obtain ⟨e, rfl⟩ : ∃ z, d = z + 1 := ⟨d - 1, by omega⟩
  unfold wp_199 at h
  refine zf_M_of (Nat.le_of_ble_eq_true rfl) zm_199 (L := [some (.inr (.inr (1, 63))), some (.inl v1), none, none, none, none, none, none]) rfl ?_
  refine zf_ld (pc' := 1) (v := .inl v1) dX8_summer_0 rfl (fun _ _ _ => rfl) rfl rfl rfl ?_
  refine zf_ic (v := 1) (pc' := 2) dX8_summer_1 rfl rfl ?_
  refine zf_icmp_lt (tgt := 11) (pc' := 5) dX8_summer_2 rfl rfl (fun g => ?_) (fun g => ?_)
  · replace h := h.1 g
    refine zf_ld (pc' := 12) (v := .inr (.inr (1, 63))) dX8_summer_11 rfl (fun _ _ _ => rfl) rfl rfl rfl ?_
    refine zf_bi (v := (-6)) (pc' := 14) dX8_summer_12 rfl rfl ?_
    refine zf_iv (k := 125) (pc' := 17) (r := []) dX8_summer_14 rfl rfl rfl rfl (by decide) rfl rfl rfl (zr_125 (by omega) h) (zf_kI (fun x1 m2 h => ?_))
    exact zf_ri dX8_summer_17 rfl h
  · replace h := h.2 g
    refine zf_ld (pc' := 6) (v := .inl v1) dX8_summer_5 rfl (fun _ _ _ => rfl) rfl rfl rfl ?_
    refine zf_bi (v := 60) (pc' := 8) dX8_summer_6 rfl rfl ?_
    refine zf_icmp_le (tgt := 18) (pc' := 11) dX8_summer_8 rfl rfl (fun g => ?_) (fun g => ?_)
    · replace h := h.1 g
      refine zf_ld (pc' := 19) (v := .inr (.inr (1, 63))) dX8_summer_18 rfl (fun _ _ _ => rfl) rfl rfl rfl ?_
      refine zf_gfi (pc' := 22) dX8_summer_19 rfl rfl (by decide) rfl rfl ?_
      refine zf_st (pc' := 23) (L2 := [some (.inr (.inr (1, 63))), some (.inl v1), some (.inl (m.1 63 10)), none, none, none, none, none]) dX8_summer_22 rfl (fun _ _ _ => rfl) rfl rfl rfl rfl rfl rfl ?_
      refine zf_ic (v := 0) (pc' := 24) dX8_summer_23 rfl rfl ?_
      refine zf_st (pc' := 25) (L2 := [some (.inr (.inr (1, 63))), some (.inl v1), some (.inl (m.1 63 10)), some (.inl 0), none, none, none, none]) dX8_summer_24 rfl (fun _ _ _ => rfl) rfl rfl rfl rfl rfl rfl ?_
      obtain ⟨n25, h⟩ := h
      exact zf_lo (zq_199_25 (by omega) n25 _ _ _ h) ⟨rfl, rfl, rfl, rfl, trivial⟩
    · replace h := h.2 g
      refine zf_ld (pc' := 12) (v := .inr (.inr (1, 63))) dX8_summer_11 rfl (fun _ _ _ => rfl) rfl rfl rfl ?_
      refine zf_bi (v := (-6)) (pc' := 14) dX8_summer_12 rfl rfl ?_
      refine zf_iv (k := 125) (pc' := 17) (r := []) dX8_summer_14 rfl rfl rfl rfl (by decide) rfl rfl rfl (zr_125 (by omega) h) (zf_kI (fun x9 m10 h => ?_))
      exact zf_ri dX8_summer_17 rfl h
def zt_200 : zx_MT := (8, yX8_day, cX8_day, 3, (some FieldType.int), 0, 0)
theorem zm_200 : zx_m 200 = zt_200 := rfl
theorem dX8_day_r0 : zdcP cX8_day 0 [(.aload_n 0, 1), (.getfield 207, 3), (.istore_n 1, 1), (.aload_n 0, 1), (.iconst 0, 1), (.putfield 207, 3), (.aload_n 0, 1), (.iconst 0, 1), (.putfield 210, 3), (.aload_n 0, 1), (.iconst 0, 1), (.putfield 204, 3), (.aload_n 0, 1), (.aload_n 0, 1), (.getfield 16, 3), (.putfield 13, 3)] := zdcA_ok (by decide +kernel)
theorem dX8_day_0 : decode cX8_day 0 = .ok (.aload_n 0, 1) := dX8_day_r0.1
theorem dX8_day_1 : decode cX8_day 1 = .ok (.getfield 207, 3) := dX8_day_r0.2.1
theorem dX8_day_4 : decode cX8_day 4 = .ok (.istore_n 1, 1) := dX8_day_r0.2.2.1
theorem dX8_day_5 : decode cX8_day 5 = .ok (.aload_n 0, 1) := dX8_day_r0.2.2.2.1
theorem dX8_day_6 : decode cX8_day 6 = .ok (.iconst 0, 1) := dX8_day_r0.2.2.2.2.1
theorem dX8_day_7 : decode cX8_day 7 = .ok (.putfield 207, 3) := dX8_day_r0.2.2.2.2.2.1
theorem dX8_day_10 : decode cX8_day 10 = .ok (.aload_n 0, 1) := dX8_day_r0.2.2.2.2.2.2.1
theorem dX8_day_11 : decode cX8_day 11 = .ok (.iconst 0, 1) := dX8_day_r0.2.2.2.2.2.2.2.1
theorem dX8_day_12 : decode cX8_day 12 = .ok (.putfield 210, 3) := dX8_day_r0.2.2.2.2.2.2.2.2.1
theorem dX8_day_15 : decode cX8_day 15 = .ok (.aload_n 0, 1) := dX8_day_r0.2.2.2.2.2.2.2.2.2.1
theorem dX8_day_16 : decode cX8_day 16 = .ok (.iconst 0, 1) := dX8_day_r0.2.2.2.2.2.2.2.2.2.2.1
theorem dX8_day_17 : decode cX8_day 17 = .ok (.putfield 204, 3) := dX8_day_r0.2.2.2.2.2.2.2.2.2.2.2.1
theorem dX8_day_20 : decode cX8_day 20 = .ok (.aload_n 0, 1) := dX8_day_r0.2.2.2.2.2.2.2.2.2.2.2.2.1
theorem dX8_day_21 : decode cX8_day 21 = .ok (.aload_n 0, 1) := dX8_day_r0.2.2.2.2.2.2.2.2.2.2.2.2.2.1
theorem dX8_day_22 : decode cX8_day 22 = .ok (.getfield 16, 3) := dX8_day_r0.2.2.2.2.2.2.2.2.2.2.2.2.2.2.1
theorem dX8_day_25 : decode cX8_day 25 = .ok (.putfield 13, 3) := dX8_day_r0.2.2.2.2.2.2.2.2.2.2.2.2.2.2.2.1
theorem dX8_day_r28 : zdcP cX8_day 28 [(.iconst 0, 1), (.istore_n 2, 1), (.iload_n 2, 1), (.aload_n 0, 1), (.getfield 105, 3), (.if_icmp .ge 16, 3), (.aload_n 0, 1), (.getfield 53, 3), (.iload_n 2, 1), (.iconst 0, 1), (.iastore, 1), (.iinc 2 1, 3), (.goto (-18), 3), (.iload_n 1, 1), (.ireturn, 1)] := zdcA_ok (by decide +kernel)
theorem dX8_day_28 : decode cX8_day 28 = .ok (.iconst 0, 1) := dX8_day_r28.1
theorem dX8_day_29 : decode cX8_day 29 = .ok (.istore_n 2, 1) := dX8_day_r28.2.1
theorem dX8_day_30 : decode cX8_day 30 = .ok (.iload_n 2, 1) := dX8_day_r28.2.2.1
theorem dX8_day_31 : decode cX8_day 31 = .ok (.aload_n 0, 1) := dX8_day_r28.2.2.2.1
theorem dX8_day_32 : decode cX8_day 32 = .ok (.getfield 105, 3) := dX8_day_r28.2.2.2.2.1
theorem dX8_day_35 : decode cX8_day 35 = .ok (.if_icmp .ge 16, 3) := dX8_day_r28.2.2.2.2.2.1
theorem dX8_day_38 : decode cX8_day 38 = .ok (.aload_n 0, 1) := dX8_day_r28.2.2.2.2.2.2.1
theorem dX8_day_39 : decode cX8_day 39 = .ok (.getfield 53, 3) := dX8_day_r28.2.2.2.2.2.2.2.1
theorem dX8_day_42 : decode cX8_day 42 = .ok (.iload_n 2, 1) := dX8_day_r28.2.2.2.2.2.2.2.2.1
theorem dX8_day_43 : decode cX8_day 43 = .ok (.iconst 0, 1) := dX8_day_r28.2.2.2.2.2.2.2.2.2.1
theorem dX8_day_44 : decode cX8_day 44 = .ok (.iastore, 1) := dX8_day_r28.2.2.2.2.2.2.2.2.2.2.1
theorem dX8_day_45 : decode cX8_day 45 = .ok (.iinc 2 1, 3) := dX8_day_r28.2.2.2.2.2.2.2.2.2.2.2.1
theorem dX8_day_48 : decode cX8_day 48 = .ok (.goto (-18), 3) := dX8_day_r28.2.2.2.2.2.2.2.2.2.2.2.2.1
theorem dX8_day_51 : decode cX8_day 51 = .ok (.iload_n 1, 1) := dX8_day_r28.2.2.2.2.2.2.2.2.2.2.2.2.2.1
theorem dX8_day_52 : decode cX8_day 52 = .ok (.ireturn, 1) := dX8_day_r28.2.2.2.2.2.2.2.2.2.2.2.2.2.2.1
def wq_200_30 (Q : Int32 → zf_Me → Prop) : Nat → Int32 → Int32 → zf_Me → Prop
  | 0, _, _, _ => False
  | n + 1, v1, v2, m => ((v2.toInt ≥ ((m.1 63 1)).toInt → Q v1 m) ∧ (v2.toInt < ((m.1 63 1)).toInt → ((0 ≤ (Int32.toInt v2) ∧ (Int32.toInt v2) < (6 : Int)) ∧ ∀ m9, m9 = zf_u m 69 (Int32.toInt v2).toNat 0 → wq_200_30 Q n v1 (v2 + 1) m9)))
theorem zq_200_30 {d : Nat} (hd : 0 ≤ d) {Q : Int32 → zf_Me → Prop} : ∀ (n : Nat) (v1 : Int32) (v2 : Int32) (m : zf_Me), wq_200_30 Q n v1 v2 m → zf_W none 0 0 d zt_200 30 [some (.inr (.inr (1, 63))), some (.inl v1), some (.inl v2)] [] m (zf_I Q) := by
  intro n
  induction n with
  | zero =>
    intro v1 v2 m h
    exact h.elim
  | succ n ih =>
    intro v1 v2 m h
    unfold wq_200_30 at h
    refine zf_ld (pc' := 31) (v := .inl v2) dX8_day_30 rfl (fun _ _ _ => rfl) rfl rfl rfl ?_
    refine zf_ld (pc' := 32) (v := .inr (.inr (1, 63))) dX8_day_31 rfl (fun _ _ _ => rfl) rfl rfl rfl ?_
    refine zf_gfi (pc' := 35) dX8_day_32 rfl rfl (by decide) rfl rfl ?_
    refine zf_icmp_ge (tgt := 51) (pc' := 38) dX8_day_35 rfl rfl (fun g => ?_) (fun g => ?_)
    · replace h := h.1 g
      refine zf_ld (pc' := 52) (v := .inl v1) dX8_day_51 rfl (fun _ _ _ => rfl) rfl rfl rfl ?_
      exact zf_ri dX8_day_52 rfl h
    · replace h := h.2 g
      refine zf_ld (pc' := 39) (v := .inr (.inr (1, 63))) dX8_day_38 rfl (fun _ _ _ => rfl) rfl rfl rfl ?_
      refine zf_gfr (pc' := 42) (b := 69) dX8_day_39 rfl rfl (by decide) rfl rfl ?_
      refine zf_ld (pc' := 43) (v := .inl v2) dX8_day_42 rfl (fun _ _ _ => rfl) rfl rfl rfl ?_
      refine zf_ic (v := 0) (pc' := 44) dX8_day_43 rfl rfl ?_
      refine zf_ias (pc' := 45) dX8_day_44 rfl (⟨by decide, rfl⟩ : zf_arr 69 6).1 (⟨by decide, rfl⟩ : zf_arr 69 6).2 h.1 rfl (fun m9 e10 => ?_)
      replace h := h.2 m9 e10
      refine zf_ii (y := (v2 + 1)) (L2 := [some (.inr (.inr (1, 63))), some (.inl v1), some (.inl (v2 + 1))]) (pc' := 48) dX8_day_45 rfl rfl rfl rfl rfl ?_
      refine zf_goto (tgt := 30) dX8_day_48 rfl ?_
      exact zf_lo (ih _ _ _ h) ⟨rfl, rfl, rfl, trivial⟩
def wp_200 (m : zf_Me) (Q : Int32 → zf_Me → Prop) : Prop := (∀ m1, m1 = zf_u m 63 10 0 → (∀ m3, m3 = zf_u m1 63 11 0 → (∀ m5, m5 = zf_u m3 63 6 0 → (∀ m7, m7 = zf_u m5 63 3 (m5.1 63 4) → (∃ n30, wq_200_30 Q n30 (m.1 63 10) 0 m7)))))
theorem zr_200 {d : Nat} (hd : 0 ≤ d) {Q : Int32 → zf_Me → Prop} {m : zf_Me} (h : wp_200 m Q) : zf_M d 200 [.inr (.inr (1, 63))] m (zf_I Q) := by
  unfold wp_200 at h
  refine zf_M_of (Nat.le_of_ble_eq_true rfl) zm_200 (L := [some (.inr (.inr (1, 63))), none, none]) rfl ?_
  refine zf_ld (pc' := 1) (v := .inr (.inr (1, 63))) dX8_day_0 rfl (fun _ _ _ => rfl) rfl rfl rfl ?_
  refine zf_gfi (pc' := 4) dX8_day_1 rfl rfl (by decide) rfl rfl ?_
  refine zf_st (pc' := 5) (L2 := [some (.inr (.inr (1, 63))), some (.inl (m.1 63 10)), none]) dX8_day_4 rfl (fun _ _ _ => rfl) rfl rfl rfl rfl rfl rfl ?_
  refine zf_ld (pc' := 6) (v := .inr (.inr (1, 63))) dX8_day_5 rfl (fun _ _ _ => rfl) rfl rfl rfl ?_
  refine zf_ic (v := 0) (pc' := 7) dX8_day_6 rfl rfl ?_
  refine zf_pf (pc' := 10) dX8_day_7 rfl rfl (by decide) rfl rfl rfl (fun m1 e2 => ?_)
  replace h := h m1 e2
  refine zf_ld (pc' := 11) (v := .inr (.inr (1, 63))) dX8_day_10 rfl (fun _ _ _ => rfl) rfl rfl rfl ?_
  refine zf_ic (v := 0) (pc' := 12) dX8_day_11 rfl rfl ?_
  refine zf_pf (pc' := 15) dX8_day_12 rfl rfl (by decide) rfl rfl rfl (fun m3 e4 => ?_)
  replace h := h m3 e4
  refine zf_ld (pc' := 16) (v := .inr (.inr (1, 63))) dX8_day_15 rfl (fun _ _ _ => rfl) rfl rfl rfl ?_
  refine zf_ic (v := 0) (pc' := 17) dX8_day_16 rfl rfl ?_
  refine zf_pf (pc' := 20) dX8_day_17 rfl rfl (by decide) rfl rfl rfl (fun m5 e6 => ?_)
  replace h := h m5 e6
  refine zf_ld (pc' := 21) (v := .inr (.inr (1, 63))) dX8_day_20 rfl (fun _ _ _ => rfl) rfl rfl rfl ?_
  refine zf_ld (pc' := 22) (v := .inr (.inr (1, 63))) dX8_day_21 rfl (fun _ _ _ => rfl) rfl rfl rfl ?_
  refine zf_gfi (pc' := 25) dX8_day_22 rfl rfl (by decide) rfl rfl ?_
  refine zf_pf (pc' := 28) dX8_day_25 rfl rfl (by decide) rfl rfl rfl (fun m7 e8 => ?_)
  replace h := h m7 e8
  refine zf_ic (v := 0) (pc' := 29) dX8_day_28 rfl rfl ?_
  refine zf_st (pc' := 30) (L2 := [some (.inr (.inr (1, 63))), some (.inl (m.1 63 10)), some (.inl 0)]) dX8_day_29 rfl (fun _ _ _ => rfl) rfl rfl rfl rfl rfl rfl ?_
  obtain ⟨n30, h⟩ := h
  exact zf_lo (zq_200_30 (by omega) n30 _ _ _ h) ⟨rfl, rfl, rfl, trivial⟩
