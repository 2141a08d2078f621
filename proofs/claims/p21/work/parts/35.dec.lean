/-! part 35: methods 131..: laid by wip/flat/dec.py -/
def zt_131 : zx_MT := (8, yX8_set, cX8_set, 5, (some FieldType.int), 3, 0)
theorem zm_131 : zx_m 131 = zt_131 := rfl
theorem dX8_set_r0 : zdcP cX8_set 0 [(.aload_n 0, 1), (.iload_n 1, 1), (.invokevirtual 111, 3), (.ifCond .ne 9, 3), (.aload_n 0, 1), (.iconst (-1), 1), (.invokevirtual 115, 3), (.ireturn, 1), (.aload_n 0, 1), (.getfield 56, 3), (.iload_n 1, 1), (.iaload, 1), (.iconst 2, 1), (.if_icmp .ne 10, 3), (.aload_n 0, 1), (.bipush (-2), 2)] := zdcA_ok (by decide +kernel)
theorem dX8_set_0 : decode cX8_set 0 = .ok (.aload_n 0, 1) := dX8_set_r0.1
theorem dX8_set_1 : decode cX8_set 1 = .ok (.iload_n 1, 1) := dX8_set_r0.2.1
theorem dX8_set_2 : decode cX8_set 2 = .ok (.invokevirtual 111, 3) := dX8_set_r0.2.2.1
theorem dX8_set_5 : decode cX8_set 5 = .ok (.ifCond .ne 9, 3) := dX8_set_r0.2.2.2.1
theorem dX8_set_8 : decode cX8_set 8 = .ok (.aload_n 0, 1) := dX8_set_r0.2.2.2.2.1
theorem dX8_set_9 : decode cX8_set 9 = .ok (.iconst (-1), 1) := dX8_set_r0.2.2.2.2.2.1
theorem dX8_set_10 : decode cX8_set 10 = .ok (.invokevirtual 115, 3) := dX8_set_r0.2.2.2.2.2.2.1
theorem dX8_set_13 : decode cX8_set 13 = .ok (.ireturn, 1) := dX8_set_r0.2.2.2.2.2.2.2.1
theorem dX8_set_14 : decode cX8_set 14 = .ok (.aload_n 0, 1) := dX8_set_r0.2.2.2.2.2.2.2.2.1
theorem dX8_set_15 : decode cX8_set 15 = .ok (.getfield 56, 3) := dX8_set_r0.2.2.2.2.2.2.2.2.2.1
theorem dX8_set_18 : decode cX8_set 18 = .ok (.iload_n 1, 1) := dX8_set_r0.2.2.2.2.2.2.2.2.2.2.1
theorem dX8_set_19 : decode cX8_set 19 = .ok (.iaload, 1) := dX8_set_r0.2.2.2.2.2.2.2.2.2.2.2.1
theorem dX8_set_20 : decode cX8_set 20 = .ok (.iconst 2, 1) := dX8_set_r0.2.2.2.2.2.2.2.2.2.2.2.2.1
theorem dX8_set_21 : decode cX8_set 21 = .ok (.if_icmp .ne 10, 3) := dX8_set_r0.2.2.2.2.2.2.2.2.2.2.2.2.2.1
theorem dX8_set_24 : decode cX8_set 24 = .ok (.aload_n 0, 1) := dX8_set_r0.2.2.2.2.2.2.2.2.2.2.2.2.2.2.1
theorem dX8_set_25 : decode cX8_set 25 = .ok (.bipush (-2), 2) := dX8_set_r0.2.2.2.2.2.2.2.2.2.2.2.2.2.2.2.1
theorem dX8_set_r27 : zdcP cX8_set 27 [(.invokevirtual 115, 3), (.ireturn, 1), (.aload_n 0, 1), (.getfield 56, 3), (.iload_n 1, 1), (.iaload, 1), (.ifCond .ne 10, 3), (.aload_n 0, 1), (.bipush (-3), 2), (.invokevirtual 115, 3), (.ireturn, 1), (.iload_n 2, 1), (.ifCond .lt 13, 3), (.iload_n 2, 1), (.aload_n 0, 1), (.getfield 62, 3)] := zdcA_ok (by decide +kernel)
theorem dX8_set_27 : decode cX8_set 27 = .ok (.invokevirtual 115, 3) := dX8_set_r27.1
theorem dX8_set_30 : decode cX8_set 30 = .ok (.ireturn, 1) := dX8_set_r27.2.1
theorem dX8_set_31 : decode cX8_set 31 = .ok (.aload_n 0, 1) := dX8_set_r27.2.2.1
theorem dX8_set_32 : decode cX8_set 32 = .ok (.getfield 56, 3) := dX8_set_r27.2.2.2.1
theorem dX8_set_35 : decode cX8_set 35 = .ok (.iload_n 1, 1) := dX8_set_r27.2.2.2.2.1
theorem dX8_set_36 : decode cX8_set 36 = .ok (.iaload, 1) := dX8_set_r27.2.2.2.2.2.1
theorem dX8_set_37 : decode cX8_set 37 = .ok (.ifCond .ne 10, 3) := dX8_set_r27.2.2.2.2.2.2.1
theorem dX8_set_40 : decode cX8_set 40 = .ok (.aload_n 0, 1) := dX8_set_r27.2.2.2.2.2.2.2.1
theorem dX8_set_41 : decode cX8_set 41 = .ok (.bipush (-3), 2) := dX8_set_r27.2.2.2.2.2.2.2.2.1
theorem dX8_set_43 : decode cX8_set 43 = .ok (.invokevirtual 115, 3) := dX8_set_r27.2.2.2.2.2.2.2.2.2.1
theorem dX8_set_46 : decode cX8_set 46 = .ok (.ireturn, 1) := dX8_set_r27.2.2.2.2.2.2.2.2.2.2.1
theorem dX8_set_47 : decode cX8_set 47 = .ok (.iload_n 2, 1) := dX8_set_r27.2.2.2.2.2.2.2.2.2.2.2.1
theorem dX8_set_48 : decode cX8_set 48 = .ok (.ifCond .lt 13, 3) := dX8_set_r27.2.2.2.2.2.2.2.2.2.2.2.2.1
theorem dX8_set_51 : decode cX8_set 51 = .ok (.iload_n 2, 1) := dX8_set_r27.2.2.2.2.2.2.2.2.2.2.2.2.2.1
theorem dX8_set_52 : decode cX8_set 52 = .ok (.aload_n 0, 1) := dX8_set_r27.2.2.2.2.2.2.2.2.2.2.2.2.2.2.1
theorem dX8_set_53 : decode cX8_set 53 = .ok (.getfield 62, 3) := dX8_set_r27.2.2.2.2.2.2.2.2.2.2.2.2.2.2.2.1
theorem dX8_set_r56 : zdcP cX8_set 56 [(.iload_n 1, 1), (.iaload, 1), (.if_icmp .lt 10, 3), (.aload_n 0, 1), (.bipush (-5), 2), (.invokevirtual 115, 3), (.ireturn, 1), (.aload_n 0, 1), (.getfield 68, 3), (.sipush 160, 3), (.iload_n 1, 1), (.imul, 1), (.iload_n 2, 1), (.iadd, 1), (.aload_n 0, 1), (.getfield 59, 3)] := zdcA_ok (by decide +kernel)
theorem dX8_set_56 : decode cX8_set 56 = .ok (.iload_n 1, 1) := dX8_set_r56.1
theorem dX8_set_57 : decode cX8_set 57 = .ok (.iaload, 1) := dX8_set_r56.2.1
theorem dX8_set_58 : decode cX8_set 58 = .ok (.if_icmp .lt 10, 3) := dX8_set_r56.2.2.1
theorem dX8_set_61 : decode cX8_set 61 = .ok (.aload_n 0, 1) := dX8_set_r56.2.2.2.1
theorem dX8_set_62 : decode cX8_set 62 = .ok (.bipush (-5), 2) := dX8_set_r56.2.2.2.2.1
theorem dX8_set_64 : decode cX8_set 64 = .ok (.invokevirtual 115, 3) := dX8_set_r56.2.2.2.2.2.1
theorem dX8_set_67 : decode cX8_set 67 = .ok (.ireturn, 1) := dX8_set_r56.2.2.2.2.2.2.1
theorem dX8_set_68 : decode cX8_set 68 = .ok (.aload_n 0, 1) := dX8_set_r56.2.2.2.2.2.2.2.1
theorem dX8_set_69 : decode cX8_set 69 = .ok (.getfield 68, 3) := dX8_set_r56.2.2.2.2.2.2.2.2.1
theorem dX8_set_72 : decode cX8_set 72 = .ok (.sipush 160, 3) := dX8_set_r56.2.2.2.2.2.2.2.2.2.1
theorem dX8_set_75 : decode cX8_set 75 = .ok (.iload_n 1, 1) := dX8_set_r56.2.2.2.2.2.2.2.2.2.2.1
theorem dX8_set_76 : decode cX8_set 76 = .ok (.imul, 1) := dX8_set_r56.2.2.2.2.2.2.2.2.2.2.2.1
theorem dX8_set_77 : decode cX8_set 77 = .ok (.iload_n 2, 1) := dX8_set_r56.2.2.2.2.2.2.2.2.2.2.2.2.1
theorem dX8_set_78 : decode cX8_set 78 = .ok (.iadd, 1) := dX8_set_r56.2.2.2.2.2.2.2.2.2.2.2.2.2.1
theorem dX8_set_79 : decode cX8_set 79 = .ok (.aload_n 0, 1) := dX8_set_r56.2.2.2.2.2.2.2.2.2.2.2.2.2.2.1
theorem dX8_set_80 : decode cX8_set 80 = .ok (.getfield 59, 3) := dX8_set_r56.2.2.2.2.2.2.2.2.2.2.2.2.2.2.2.1
theorem dX8_set_r83 : zdcP cX8_set 83 [(.iload_n 1, 1), (.iaload, 1), (.ifCond .ne 10, 3), (.lload_n 3, 1), (.l2i, 1), (.i2b, 1), (.i2l, 1), (.goto 37, 3), (.aload_n 0, 1), (.getfield 59, 3), (.iload_n 1, 1), (.iaload, 1), (.iconst 1, 1), (.if_icmp .ne 10, 3), (.lload_n 3, 1), (.l2i, 1)] := zdcA_ok (by decide +kernel)
theorem dX8_set_83 : decode cX8_set 83 = .ok (.iload_n 1, 1) := dX8_set_r83.1
theorem dX8_set_84 : decode cX8_set 84 = .ok (.iaload, 1) := dX8_set_r83.2.1
theorem dX8_set_85 : decode cX8_set 85 = .ok (.ifCond .ne 10, 3) := dX8_set_r83.2.2.1
theorem dX8_set_88 : decode cX8_set 88 = .ok (.lload_n 3, 1) := dX8_set_r83.2.2.2.1
theorem dX8_set_89 : decode cX8_set 89 = .ok (.l2i, 1) := dX8_set_r83.2.2.2.2.1
theorem dX8_set_90 : decode cX8_set 90 = .ok (.i2b, 1) := dX8_set_r83.2.2.2.2.2.1
theorem dX8_set_91 : decode cX8_set 91 = .ok (.i2l, 1) := dX8_set_r83.2.2.2.2.2.2.1
theorem dX8_set_92 : decode cX8_set 92 = .ok (.goto 37, 3) := dX8_set_r83.2.2.2.2.2.2.2.1
theorem dX8_set_95 : decode cX8_set 95 = .ok (.aload_n 0, 1) := dX8_set_r83.2.2.2.2.2.2.2.2.1
theorem dX8_set_96 : decode cX8_set 96 = .ok (.getfield 59, 3) := dX8_set_r83.2.2.2.2.2.2.2.2.2.1
theorem dX8_set_99 : decode cX8_set 99 = .ok (.iload_n 1, 1) := dX8_set_r83.2.2.2.2.2.2.2.2.2.2.1
theorem dX8_set_100 : decode cX8_set 100 = .ok (.iaload, 1) := dX8_set_r83.2.2.2.2.2.2.2.2.2.2.2.1
theorem dX8_set_101 : decode cX8_set 101 = .ok (.iconst 1, 1) := dX8_set_r83.2.2.2.2.2.2.2.2.2.2.2.2.1
theorem dX8_set_102 : decode cX8_set 102 = .ok (.if_icmp .ne 10, 3) := dX8_set_r83.2.2.2.2.2.2.2.2.2.2.2.2.2.1
theorem dX8_set_105 : decode cX8_set 105 = .ok (.lload_n 3, 1) := dX8_set_r83.2.2.2.2.2.2.2.2.2.2.2.2.2.2.1
theorem dX8_set_106 : decode cX8_set 106 = .ok (.l2i, 1) := dX8_set_r83.2.2.2.2.2.2.2.2.2.2.2.2.2.2.2.1
theorem dX8_set_r107 : zdcP cX8_set 107 [(.i2s, 1), (.i2l, 1), (.goto 20, 3), (.aload_n 0, 1), (.getfield 59, 3), (.iload_n 1, 1), (.iaload, 1), (.iconst 2, 1), (.if_icmp .ne 9, 3), (.lload_n 3, 1), (.l2i, 1), (.i2l, 1), (.goto 4, 3), (.lload_n 3, 1), (.lastore, 1), (.iconst 1, 1)] := zdcA_ok (by decide +kernel)
theorem dX8_set_107 : decode cX8_set 107 = .ok (.i2s, 1) := dX8_set_r107.1
theorem dX8_set_108 : decode cX8_set 108 = .ok (.i2l, 1) := dX8_set_r107.2.1
theorem dX8_set_109 : decode cX8_set 109 = .ok (.goto 20, 3) := dX8_set_r107.2.2.1
theorem dX8_set_112 : decode cX8_set 112 = .ok (.aload_n 0, 1) := dX8_set_r107.2.2.2.1
theorem dX8_set_113 : decode cX8_set 113 = .ok (.getfield 59, 3) := dX8_set_r107.2.2.2.2.1
theorem dX8_set_116 : decode cX8_set 116 = .ok (.iload_n 1, 1) := dX8_set_r107.2.2.2.2.2.1
theorem dX8_set_117 : decode cX8_set 117 = .ok (.iaload, 1) := dX8_set_r107.2.2.2.2.2.2.1
theorem dX8_set_118 : decode cX8_set 118 = .ok (.iconst 2, 1) := dX8_set_r107.2.2.2.2.2.2.2.1
theorem dX8_set_119 : decode cX8_set 119 = .ok (.if_icmp .ne 9, 3) := dX8_set_r107.2.2.2.2.2.2.2.2.1
theorem dX8_set_122 : decode cX8_set 122 = .ok (.lload_n 3, 1) := dX8_set_r107.2.2.2.2.2.2.2.2.2.1
theorem dX8_set_123 : decode cX8_set 123 = .ok (.l2i, 1) := dX8_set_r107.2.2.2.2.2.2.2.2.2.2.1
theorem dX8_set_124 : decode cX8_set 124 = .ok (.i2l, 1) := dX8_set_r107.2.2.2.2.2.2.2.2.2.2.2.1
theorem dX8_set_125 : decode cX8_set 125 = .ok (.goto 4, 3) := dX8_set_r107.2.2.2.2.2.2.2.2.2.2.2.2.1
theorem dX8_set_128 : decode cX8_set 128 = .ok (.lload_n 3, 1) := dX8_set_r107.2.2.2.2.2.2.2.2.2.2.2.2.2.1
theorem dX8_set_129 : decode cX8_set 129 = .ok (.lastore, 1) := dX8_set_r107.2.2.2.2.2.2.2.2.2.2.2.2.2.2.1
theorem dX8_set_130 : decode cX8_set 130 = .ok (.iconst 1, 1) := dX8_set_r107.2.2.2.2.2.2.2.2.2.2.2.2.2.2.2.1
theorem dX8_set_131 : decode cX8_set 131 = .ok (.ireturn, 1) := zdc_ok (by decide +kernel)
def wp_131 (v1 : Int32) (v2 : Int32) (v3 : Int64) (m : zf_Me) (Q : Int32 → zf_Me → Prop) : Prop := wp_127 v1 m (fun b1 m2 => ((b1 = true → ((0 ≤ (Int32.toInt v1) ∧ (Int32.toInt v1) < (8 : Int)) ∧ ((¬ ((m2.1 70 (Int32.toInt v1).toNat)).toInt = 2 → ((0 ≤ (Int32.toInt v1) ∧ (Int32.toInt v1) < (8 : Int)) ∧ ((¬ ((m2.1 70 (Int32.toInt v1).toNat)).toInt = 0 → ((v2.toInt < 0 → wp_125 (-5) m2 (fun x3 m4 => Q x3 m4)) ∧ (v2.toInt ≥ 0 → ((0 ≤ (Int32.toInt v1) ∧ (Int32.toInt v1) < (8 : Int)) ∧ ((v2.toInt < ((m2.1 72 (Int32.toInt v1).toNat)).toInt → ((0 ≤ (Int32.toInt v1) ∧ (Int32.toInt v1) < (8 : Int)) ∧ ((¬ ((m2.1 71 (Int32.toInt v1).toNat)).toInt = 0 → ((0 ≤ (Int32.toInt v1) ∧ (Int32.toInt v1) < (8 : Int)) ∧ ((¬ ((m2.1 71 (Int32.toInt v1).toNat)).toInt = 1 → ((0 ≤ (Int32.toInt v1) ∧ (Int32.toInt v1) < (8 : Int)) ∧ ((¬ ((m2.1 71 (Int32.toInt v1).toNat)).toInt = 2 → ((0 ≤ (Int32.toInt ((160 * v1) + v2)) ∧ (Int32.toInt ((160 * v1) + v2)) < (1280 : Int)) ∧ ∀ m5, m5 = zf_ul m2 74 (Int32.toInt ((160 * v1) + v2)).toNat v3 → Q 1 m5)) ∧ (((m2.1 71 (Int32.toInt v1).toNat)).toInt = 2 → ((0 ≤ (Int32.toInt ((160 * v1) + v2)) ∧ (Int32.toInt ((160 * v1) + v2)) < (1280 : Int)) ∧ ∀ m7, m7 = zf_ul m2 74 (Int32.toInt ((160 * v1) + v2)).toNat (Int32.toInt64 (Int64.toInt32 v3)) → Q 1 m7))))) ∧ (((m2.1 71 (Int32.toInt v1).toNat)).toInt = 1 → ((0 ≤ (Int32.toInt ((160 * v1) + v2)) ∧ (Int32.toInt ((160 * v1) + v2)) < (1280 : Int)) ∧ ∀ m9, m9 = zf_ul m2 74 (Int32.toInt ((160 * v1) + v2)).toNat (Int32.toInt64 (Int16.toInt32 (Int32.toInt16 (Int64.toInt32 v3)))) → Q 1 m9))))) ∧ (((m2.1 71 (Int32.toInt v1).toNat)).toInt = 0 → ((0 ≤ (Int32.toInt ((160 * v1) + v2)) ∧ (Int32.toInt ((160 * v1) + v2)) < (1280 : Int)) ∧ ∀ m11, m11 = zf_ul m2 74 (Int32.toInt ((160 * v1) + v2)).toNat (Int32.toInt64 (Int8.toInt32 (Int32.toInt8 (Int64.toInt32 v3)))) → Q 1 m11))))) ∧ (v2.toInt ≥ ((m2.1 72 (Int32.toInt v1).toNat)).toInt → wp_125 (-5) m2 (fun x13 m14 => Q x13 m14))))))) ∧ (((m2.1 70 (Int32.toInt v1).toNat)).toInt = 0 → wp_125 (-3) m2 (fun x15 m16 => Q x15 m16))))) ∧ (((m2.1 70 (Int32.toInt v1).toNat)).toInt = 2 → wp_125 (-2) m2 (fun x17 m18 => Q x17 m18))))) ∧ (b1 = false → wp_125 (-1) m2 (fun x19 m20 => Q x19 m20))))
theorem zr_131 {d : Nat} (hd : 1 ≤ d) {v1 : Int32} {v2 : Int32} {v3 : Int64} {Q : Int32 → zf_Me → Prop} {m : zf_Me} (h : wp_131 v1 v2 v3 m Q) : zf_M d 131 [.inr (.inr (1, 63)), .inl v1, .inl v2, .inr (.inl v3)] m (zf_I Q) := by
  obtain ⟨e, rfl⟩ : ∃ z, d = z + 1 := ⟨d - 1, by omega⟩
  unfold wp_131 at h
  refine zf_M_of (Nat.le_of_ble_eq_true rfl) zm_131 (L := [some (.inr (.inr (1, 63))), some (.inl v1), some (.inl v2), some (.inr (.inl v3)), none]) rfl ?_
  refine zf_ld (pc' := 1) (v := .inr (.inr (1, 63))) dX8_set_0 rfl (fun _ _ _ => rfl) rfl rfl rfl ?_
  refine zf_ld (pc' := 2) (v := .inl v1) dX8_set_1 rfl (fun _ _ _ => rfl) rfl rfl rfl ?_
  refine zf_iv (k := 127) (pc' := 5) (r := []) dX8_set_2 rfl rfl rfl rfl (by decide) rfl rfl rfl (zr_127 (by omega) h) (zf_kB (fun b1 m2 h => ?_))
  refine zf_ib_ne (tgt := 14) (pc' := 8) dX8_set_5 rfl rfl (fun g => ?_) (fun g => ?_)
  · replace h := h.1 g
    refine zf_ld (pc' := 15) (v := .inr (.inr (1, 63))) dX8_set_14 rfl (fun _ _ _ => rfl) rfl rfl rfl ?_
    refine zf_gfr (pc' := 18) (b := 70) dX8_set_15 rfl rfl (by decide) rfl rfl ?_
    refine zf_ld (pc' := 19) (v := .inl v1) dX8_set_18 rfl (fun _ _ _ => rfl) rfl rfl rfl ?_
    refine zf_ial (pc' := 20) dX8_set_19 rfl (⟨by decide, rfl⟩ : zf_arr 70 8).1 (⟨by decide, rfl⟩ : zf_arr 70 8).2 h.1 rfl ?_
    replace h := h.2
    refine zf_ic (v := 2) (pc' := 21) dX8_set_20 rfl rfl ?_
    refine zf_icmp_ne (tgt := 31) (pc' := 24) dX8_set_21 rfl rfl (fun g => ?_) (fun g => ?_)
    · replace h := h.1 g
      refine zf_ld (pc' := 32) (v := .inr (.inr (1, 63))) dX8_set_31 rfl (fun _ _ _ => rfl) rfl rfl rfl ?_
      refine zf_gfr (pc' := 35) (b := 70) dX8_set_32 rfl rfl (by decide) rfl rfl ?_
      refine zf_ld (pc' := 36) (v := .inl v1) dX8_set_35 rfl (fun _ _ _ => rfl) rfl rfl rfl ?_
      refine zf_ial (pc' := 37) dX8_set_36 rfl (⟨by decide, rfl⟩ : zf_arr 70 8).1 (⟨by decide, rfl⟩ : zf_arr 70 8).2 h.1 rfl ?_
      replace h := h.2
      refine zf_if_ne (tgt := 47) (pc' := 40) dX8_set_37 rfl rfl (fun g => ?_) (fun g => ?_)
      · replace h := h.1 g
        refine zf_ld (pc' := 48) (v := .inl v2) dX8_set_47 rfl (fun _ _ _ => rfl) rfl rfl rfl ?_
        refine zf_if_lt (tgt := 61) (pc' := 51) dX8_set_48 rfl rfl (fun g => ?_) (fun g => ?_)
        · replace h := h.1 g
          refine zf_ld (pc' := 62) (v := .inr (.inr (1, 63))) dX8_set_61 rfl (fun _ _ _ => rfl) rfl rfl rfl ?_
          refine zf_bi (v := (-5)) (pc' := 64) dX8_set_62 rfl rfl ?_
          refine zf_iv (k := 125) (pc' := 67) (r := []) dX8_set_64 rfl rfl rfl rfl (by decide) rfl rfl rfl (zr_125 (by omega) h) (zf_kI (fun x3 m4 h => ?_))
          exact zf_ri dX8_set_67 rfl h
        · replace h := h.2 g
          refine zf_ld (pc' := 52) (v := .inl v2) dX8_set_51 rfl (fun _ _ _ => rfl) rfl rfl rfl ?_
          refine zf_ld (pc' := 53) (v := .inr (.inr (1, 63))) dX8_set_52 rfl (fun _ _ _ => rfl) rfl rfl rfl ?_
          refine zf_gfr (pc' := 56) (b := 72) dX8_set_53 rfl rfl (by decide) rfl rfl ?_
          refine zf_ld (pc' := 57) (v := .inl v1) dX8_set_56 rfl (fun _ _ _ => rfl) rfl rfl rfl ?_
          refine zf_ial (pc' := 58) dX8_set_57 rfl (⟨by decide, rfl⟩ : zf_arr 72 8).1 (⟨by decide, rfl⟩ : zf_arr 72 8).2 h.1 rfl ?_
          replace h := h.2
          refine zf_icmp_lt (tgt := 68) (pc' := 61) dX8_set_58 rfl rfl (fun g => ?_) (fun g => ?_)
          · replace h := h.1 g
            refine zf_ld (pc' := 69) (v := .inr (.inr (1, 63))) dX8_set_68 rfl (fun _ _ _ => rfl) rfl rfl rfl ?_
            refine zf_gfr (pc' := 72) (b := 74) dX8_set_69 rfl rfl (by decide) rfl rfl ?_
            refine zf_si (v := 160) (pc' := 75) dX8_set_72 rfl rfl ?_
            refine zf_ld (pc' := 76) (v := .inl v1) dX8_set_75 rfl (fun _ _ _ => rfl) rfl rfl rfl ?_
            refine zf_in (pc' := 77) (S' := [.inl (160 * v1), .inr (.inr (1, 74))]) dX8_set_76 rfl (fun _ _ _ => rfl) ?_
            refine zf_ld (pc' := 78) (v := .inl v2) dX8_set_77 rfl (fun _ _ _ => rfl) rfl rfl rfl ?_
            refine zf_in (pc' := 79) (S' := [.inl ((160 * v1) + v2), .inr (.inr (1, 74))]) dX8_set_78 rfl (fun _ _ _ => rfl) ?_
            refine zf_ld (pc' := 80) (v := .inr (.inr (1, 63))) dX8_set_79 rfl (fun _ _ _ => rfl) rfl rfl rfl ?_
            refine zf_gfr (pc' := 83) (b := 71) dX8_set_80 rfl rfl (by decide) rfl rfl ?_
            refine zf_ld (pc' := 84) (v := .inl v1) dX8_set_83 rfl (fun _ _ _ => rfl) rfl rfl rfl ?_
            refine zf_ial (pc' := 85) dX8_set_84 rfl (⟨by decide, rfl⟩ : zf_arr 71 8).1 (⟨by decide, rfl⟩ : zf_arr 71 8).2 h.1 rfl ?_
            replace h := h.2
            refine zf_if_ne (tgt := 95) (pc' := 88) dX8_set_85 rfl rfl (fun g => ?_) (fun g => ?_)
            · replace h := h.1 g
              refine zf_ld (pc' := 96) (v := .inr (.inr (1, 63))) dX8_set_95 rfl (fun _ _ _ => rfl) rfl rfl rfl ?_
              refine zf_gfr (pc' := 99) (b := 71) dX8_set_96 rfl rfl (by decide) rfl rfl ?_
              refine zf_ld (pc' := 100) (v := .inl v1) dX8_set_99 rfl (fun _ _ _ => rfl) rfl rfl rfl ?_
              refine zf_ial (pc' := 101) dX8_set_100 rfl (⟨by decide, rfl⟩ : zf_arr 71 8).1 (⟨by decide, rfl⟩ : zf_arr 71 8).2 h.1 rfl ?_
              replace h := h.2
              refine zf_ic (v := 1) (pc' := 102) dX8_set_101 rfl rfl ?_
              refine zf_icmp_ne (tgt := 112) (pc' := 105) dX8_set_102 rfl rfl (fun g => ?_) (fun g => ?_)
              · replace h := h.1 g
                refine zf_ld (pc' := 113) (v := .inr (.inr (1, 63))) dX8_set_112 rfl (fun _ _ _ => rfl) rfl rfl rfl ?_
                refine zf_gfr (pc' := 116) (b := 71) dX8_set_113 rfl rfl (by decide) rfl rfl ?_
                refine zf_ld (pc' := 117) (v := .inl v1) dX8_set_116 rfl (fun _ _ _ => rfl) rfl rfl rfl ?_
                refine zf_ial (pc' := 118) dX8_set_117 rfl (⟨by decide, rfl⟩ : zf_arr 71 8).1 (⟨by decide, rfl⟩ : zf_arr 71 8).2 h.1 rfl ?_
                replace h := h.2
                refine zf_ic (v := 2) (pc' := 119) dX8_set_118 rfl rfl ?_
                refine zf_icmp_ne (tgt := 128) (pc' := 122) dX8_set_119 rfl rfl (fun g => ?_) (fun g => ?_)
                · replace h := h.1 g
                  refine zf_ld (pc' := 129) (v := .inr (.inl v3)) dX8_set_128 rfl (fun _ _ _ => rfl) rfl rfl rfl ?_
                  refine zf_las (pc' := 130) dX8_set_129 rfl (⟨by decide, rfl⟩ : zf_larr 74 1280).1 (⟨by decide, rfl⟩ : zf_larr 74 1280).2 h.1 rfl (fun m5 e6 => ?_)
                  replace h := h.2 m5 e6
                  refine zf_ic (v := 1) (pc' := 131) dX8_set_130 rfl rfl ?_
                  exact zf_ri dX8_set_131 rfl h
                · replace h := h.2 g
                  refine zf_ld (pc' := 123) (v := .inr (.inl v3)) dX8_set_122 rfl (fun _ _ _ => rfl) rfl rfl rfl ?_
                  refine zf_in (pc' := 124) (S' := [.inl (Int64.toInt32 v3), .inl ((160 * v1) + v2), .inr (.inr (1, 74))]) dX8_set_123 rfl (fun _ _ _ => rfl) ?_
                  refine zf_in (pc' := 125) (S' := [.inr (.inl (Int32.toInt64 (Int64.toInt32 v3))), .inl ((160 * v1) + v2), .inr (.inr (1, 74))]) dX8_set_124 rfl (fun _ _ _ => rfl) ?_
                  refine zf_goto (tgt := 129) dX8_set_125 rfl ?_
                  refine zf_las (pc' := 130) dX8_set_129 rfl (⟨by decide, rfl⟩ : zf_larr 74 1280).1 (⟨by decide, rfl⟩ : zf_larr 74 1280).2 h.1 rfl (fun m7 e8 => ?_)
                  replace h := h.2 m7 e8
                  refine zf_ic (v := 1) (pc' := 131) dX8_set_130 rfl rfl ?_
                  exact zf_ri dX8_set_131 rfl h
              · replace h := h.2 g
                refine zf_ld (pc' := 106) (v := .inr (.inl v3)) dX8_set_105 rfl (fun _ _ _ => rfl) rfl rfl rfl ?_
                refine zf_in (pc' := 107) (S' := [.inl (Int64.toInt32 v3), .inl ((160 * v1) + v2), .inr (.inr (1, 74))]) dX8_set_106 rfl (fun _ _ _ => rfl) ?_
                refine zf_in (pc' := 108) (S' := [.inl (Int16.toInt32 (Int32.toInt16 (Int64.toInt32 v3))), .inl ((160 * v1) + v2), .inr (.inr (1, 74))]) dX8_set_107 rfl (fun _ _ _ => rfl) ?_
                refine zf_in (pc' := 109) (S' := [.inr (.inl (Int32.toInt64 (Int16.toInt32 (Int32.toInt16 (Int64.toInt32 v3))))), .inl ((160 * v1) + v2), .inr (.inr (1, 74))]) dX8_set_108 rfl (fun _ _ _ => rfl) ?_
                refine zf_goto (tgt := 129) dX8_set_109 rfl ?_
                refine zf_las (pc' := 130) dX8_set_129 rfl (⟨by decide, rfl⟩ : zf_larr 74 1280).1 (⟨by decide, rfl⟩ : zf_larr 74 1280).2 h.1 rfl (fun m9 e10 => ?_)
                replace h := h.2 m9 e10
                refine zf_ic (v := 1) (pc' := 131) dX8_set_130 rfl rfl ?_
                exact zf_ri dX8_set_131 rfl h
            · replace h := h.2 g
              refine zf_ld (pc' := 89) (v := .inr (.inl v3)) dX8_set_88 rfl (fun _ _ _ => rfl) rfl rfl rfl ?_
              refine zf_in (pc' := 90) (S' := [.inl (Int64.toInt32 v3), .inl ((160 * v1) + v2), .inr (.inr (1, 74))]) dX8_set_89 rfl (fun _ _ _ => rfl) ?_
              refine zf_in (pc' := 91) (S' := [.inl (Int8.toInt32 (Int32.toInt8 (Int64.toInt32 v3))), .inl ((160 * v1) + v2), .inr (.inr (1, 74))]) dX8_set_90 rfl (fun _ _ _ => rfl) ?_
              refine zf_in (pc' := 92) (S' := [.inr (.inl (Int32.toInt64 (Int8.toInt32 (Int32.toInt8 (Int64.toInt32 v3))))), .inl ((160 * v1) + v2), .inr (.inr (1, 74))]) dX8_set_91 rfl (fun _ _ _ => rfl) ?_
              refine zf_goto (tgt := 129) dX8_set_92 rfl ?_
              refine zf_las (pc' := 130) dX8_set_129 rfl (⟨by decide, rfl⟩ : zf_larr 74 1280).1 (⟨by decide, rfl⟩ : zf_larr 74 1280).2 h.1 rfl (fun m11 e12 => ?_)
              replace h := h.2 m11 e12
              refine zf_ic (v := 1) (pc' := 131) dX8_set_130 rfl rfl ?_
              exact zf_ri dX8_set_131 rfl h
          · replace h := h.2 g
            refine zf_ld (pc' := 62) (v := .inr (.inr (1, 63))) dX8_set_61 rfl (fun _ _ _ => rfl) rfl rfl rfl ?_
            refine zf_bi (v := (-5)) (pc' := 64) dX8_set_62 rfl rfl ?_
            refine zf_iv (k := 125) (pc' := 67) (r := []) dX8_set_64 rfl rfl rfl rfl (by decide) rfl rfl rfl (zr_125 (by omega) h) (zf_kI (fun x13 m14 h => ?_))
            exact zf_ri dX8_set_67 rfl h
      · replace h := h.2 g
        refine zf_ld (pc' := 41) (v := .inr (.inr (1, 63))) dX8_set_40 rfl (fun _ _ _ => rfl) rfl rfl rfl ?_
        refine zf_bi (v := (-3)) (pc' := 43) dX8_set_41 rfl rfl ?_
        refine zf_iv (k := 125) (pc' := 46) (r := []) dX8_set_43 rfl rfl rfl rfl (by decide) rfl rfl rfl (zr_125 (by omega) h) (zf_kI (fun x15 m16 h => ?_))
        exact zf_ri dX8_set_46 rfl h
    · replace h := h.2 g
      refine zf_ld (pc' := 25) (v := .inr (.inr (1, 63))) dX8_set_24 rfl (fun _ _ _ => rfl) rfl rfl rfl ?_
      refine zf_bi (v := (-2)) (pc' := 27) dX8_set_25 rfl rfl ?_
      refine zf_iv (k := 125) (pc' := 30) (r := []) dX8_set_27 rfl rfl rfl rfl (by decide) rfl rfl rfl (zr_125 (by omega) h) (zf_kI (fun x17 m18 h => ?_))
      exact zf_ri dX8_set_30 rfl h
  · replace h := h.2 g
    refine zf_ld (pc' := 9) (v := .inr (.inr (1, 63))) dX8_set_8 rfl (fun _ _ _ => rfl) rfl rfl rfl ?_
    refine zf_ic (v := (-1)) (pc' := 10) dX8_set_9 rfl rfl ?_
    refine zf_iv (k := 125) (pc' := 13) (r := []) dX8_set_10 rfl rfl rfl rfl (by decide) rfl rfl rfl (zr_125 (by omega) h) (zf_kI (fun x19 m20 h => ?_))
    exact zf_ri dX8_set_13 rfl h
def zt_132 : zx_MT := (8, yX8_copy, cX8_copy, 7, (some FieldType.int), 5, 0)
theorem zm_132 : zx_m 132 = zt_132 := rfl
theorem dX8_copy_r0 : zdcP cX8_copy 0 [(.aload_n 0, 1), (.iload_n 1, 1), (.invokevirtual 111, 3), (.ifCond .eq 11, 3), (.aload_n 0, 1), (.iload_n 2, 1), (.invokevirtual 111, 3), (.ifCond .ne 9, 3), (.aload_n 0, 1), (.iconst (-1), 1), (.invokevirtual 115, 3), (.ireturn, 1), (.aload_n 0, 1), (.getfield 56, 3), (.iload_n 1, 1), (.iaload, 1)] := zdcA_ok (by decide +kernel)
theorem dX8_copy_0 : decode cX8_copy 0 = .ok (.aload_n 0, 1) := dX8_copy_r0.1
theorem dX8_copy_1 : decode cX8_copy 1 = .ok (.iload_n 1, 1) := dX8_copy_r0.2.1
theorem dX8_copy_2 : decode cX8_copy 2 = .ok (.invokevirtual 111, 3) := dX8_copy_r0.2.2.1
theorem dX8_copy_5 : decode cX8_copy 5 = .ok (.ifCond .eq 11, 3) := dX8_copy_r0.2.2.2.1
theorem dX8_copy_8 : decode cX8_copy 8 = .ok (.aload_n 0, 1) := dX8_copy_r0.2.2.2.2.1
theorem dX8_copy_9 : decode cX8_copy 9 = .ok (.iload_n 2, 1) := dX8_copy_r0.2.2.2.2.2.1
theorem dX8_copy_10 : decode cX8_copy 10 = .ok (.invokevirtual 111, 3) := dX8_copy_r0.2.2.2.2.2.2.1
theorem dX8_copy_13 : decode cX8_copy 13 = .ok (.ifCond .ne 9, 3) := dX8_copy_r0.2.2.2.2.2.2.2.1
theorem dX8_copy_16 : decode cX8_copy 16 = .ok (.aload_n 0, 1) := dX8_copy_r0.2.2.2.2.2.2.2.2.1
theorem dX8_copy_17 : decode cX8_copy 17 = .ok (.iconst (-1), 1) := dX8_copy_r0.2.2.2.2.2.2.2.2.2.1
theorem dX8_copy_18 : decode cX8_copy 18 = .ok (.invokevirtual 115, 3) := dX8_copy_r0.2.2.2.2.2.2.2.2.2.2.1
theorem dX8_copy_21 : decode cX8_copy 21 = .ok (.ireturn, 1) := dX8_copy_r0.2.2.2.2.2.2.2.2.2.2.2.1
theorem dX8_copy_22 : decode cX8_copy 22 = .ok (.aload_n 0, 1) := dX8_copy_r0.2.2.2.2.2.2.2.2.2.2.2.2.1
theorem dX8_copy_23 : decode cX8_copy 23 = .ok (.getfield 56, 3) := dX8_copy_r0.2.2.2.2.2.2.2.2.2.2.2.2.2.1
theorem dX8_copy_26 : decode cX8_copy 26 = .ok (.iload_n 1, 1) := dX8_copy_r0.2.2.2.2.2.2.2.2.2.2.2.2.2.2.1
theorem dX8_copy_27 : decode cX8_copy 27 = .ok (.iaload, 1) := dX8_copy_r0.2.2.2.2.2.2.2.2.2.2.2.2.2.2.2.1
theorem dX8_copy_r28 : zdcP cX8_copy 28 [(.iconst 2, 1), (.if_icmp .eq 48, 3), (.aload_n 0, 1), (.getfield 56, 3), (.iload_n 2, 1), (.iaload, 1), (.iconst 2, 1), (.if_icmp .eq 38, 3), (.aload_n 0, 1), (.getfield 56, 3), (.iload_n 1, 1), (.iaload, 1), (.iconst 1, 1), (.if_icmp .ne 35, 3), (.aload_n 0, 1), (.getfield 56, 3)] := zdcA_ok (by decide +kernel)
theorem dX8_copy_28 : decode cX8_copy 28 = .ok (.iconst 2, 1) := dX8_copy_r28.1
theorem dX8_copy_29 : decode cX8_copy 29 = .ok (.if_icmp .eq 48, 3) := dX8_copy_r28.2.1
theorem dX8_copy_32 : decode cX8_copy 32 = .ok (.aload_n 0, 1) := dX8_copy_r28.2.2.1
theorem dX8_copy_33 : decode cX8_copy 33 = .ok (.getfield 56, 3) := dX8_copy_r28.2.2.2.1
theorem dX8_copy_36 : decode cX8_copy 36 = .ok (.iload_n 2, 1) := dX8_copy_r28.2.2.2.2.1
theorem dX8_copy_37 : decode cX8_copy 37 = .ok (.iaload, 1) := dX8_copy_r28.2.2.2.2.2.1
theorem dX8_copy_38 : decode cX8_copy 38 = .ok (.iconst 2, 1) := dX8_copy_r28.2.2.2.2.2.2.1
theorem dX8_copy_39 : decode cX8_copy 39 = .ok (.if_icmp .eq 38, 3) := dX8_copy_r28.2.2.2.2.2.2.2.1
theorem dX8_copy_42 : decode cX8_copy 42 = .ok (.aload_n 0, 1) := dX8_copy_r28.2.2.2.2.2.2.2.2.1
theorem dX8_copy_43 : decode cX8_copy 43 = .ok (.getfield 56, 3) := dX8_copy_r28.2.2.2.2.2.2.2.2.2.1
theorem dX8_copy_46 : decode cX8_copy 46 = .ok (.iload_n 1, 1) := dX8_copy_r28.2.2.2.2.2.2.2.2.2.2.1
theorem dX8_copy_47 : decode cX8_copy 47 = .ok (.iaload, 1) := dX8_copy_r28.2.2.2.2.2.2.2.2.2.2.2.1
theorem dX8_copy_48 : decode cX8_copy 48 = .ok (.iconst 1, 1) := dX8_copy_r28.2.2.2.2.2.2.2.2.2.2.2.2.1
theorem dX8_copy_49 : decode cX8_copy 49 = .ok (.if_icmp .ne 35, 3) := dX8_copy_r28.2.2.2.2.2.2.2.2.2.2.2.2.2.1
theorem dX8_copy_52 : decode cX8_copy 52 = .ok (.aload_n 0, 1) := dX8_copy_r28.2.2.2.2.2.2.2.2.2.2.2.2.2.2.1
theorem dX8_copy_53 : decode cX8_copy 53 = .ok (.getfield 56, 3) := dX8_copy_r28.2.2.2.2.2.2.2.2.2.2.2.2.2.2.2.1
theorem dX8_copy_r56 : zdcP cX8_copy 56 [(.iload_n 2, 1), (.iaload, 1), (.iconst 1, 1), (.if_icmp .ne 25, 3), (.aload_n 0, 1), (.getfield 59, 3), (.iload_n 1, 1), (.iaload, 1), (.aload_n 0, 1), (.getfield 59, 3), (.iload_n 2, 1), (.iaload, 1), (.if_icmp .eq 10, 3), (.aload_n 0, 1), (.bipush (-2), 2), (.invokevirtual 115, 3)] := zdcA_ok (by decide +kernel)
theorem dX8_copy_56 : decode cX8_copy 56 = .ok (.iload_n 2, 1) := dX8_copy_r56.1
theorem dX8_copy_57 : decode cX8_copy 57 = .ok (.iaload, 1) := dX8_copy_r56.2.1
theorem dX8_copy_58 : decode cX8_copy 58 = .ok (.iconst 1, 1) := dX8_copy_r56.2.2.1
theorem dX8_copy_59 : decode cX8_copy 59 = .ok (.if_icmp .ne 25, 3) := dX8_copy_r56.2.2.2.1
theorem dX8_copy_62 : decode cX8_copy 62 = .ok (.aload_n 0, 1) := dX8_copy_r56.2.2.2.2.1
theorem dX8_copy_63 : decode cX8_copy 63 = .ok (.getfield 59, 3) := dX8_copy_r56.2.2.2.2.2.1
theorem dX8_copy_66 : decode cX8_copy 66 = .ok (.iload_n 1, 1) := dX8_copy_r56.2.2.2.2.2.2.1
theorem dX8_copy_67 : decode cX8_copy 67 = .ok (.iaload, 1) := dX8_copy_r56.2.2.2.2.2.2.2.1
theorem dX8_copy_68 : decode cX8_copy 68 = .ok (.aload_n 0, 1) := dX8_copy_r56.2.2.2.2.2.2.2.2.1
theorem dX8_copy_69 : decode cX8_copy 69 = .ok (.getfield 59, 3) := dX8_copy_r56.2.2.2.2.2.2.2.2.2.1
theorem dX8_copy_72 : decode cX8_copy 72 = .ok (.iload_n 2, 1) := dX8_copy_r56.2.2.2.2.2.2.2.2.2.2.1
theorem dX8_copy_73 : decode cX8_copy 73 = .ok (.iaload, 1) := dX8_copy_r56.2.2.2.2.2.2.2.2.2.2.2.1
theorem dX8_copy_74 : decode cX8_copy 74 = .ok (.if_icmp .eq 10, 3) := dX8_copy_r56.2.2.2.2.2.2.2.2.2.2.2.2.1
theorem dX8_copy_77 : decode cX8_copy 77 = .ok (.aload_n 0, 1) := dX8_copy_r56.2.2.2.2.2.2.2.2.2.2.2.2.2.1
theorem dX8_copy_78 : decode cX8_copy 78 = .ok (.bipush (-2), 2) := dX8_copy_r56.2.2.2.2.2.2.2.2.2.2.2.2.2.2.1
theorem dX8_copy_80 : decode cX8_copy 80 = .ok (.invokevirtual 115, 3) := dX8_copy_r56.2.2.2.2.2.2.2.2.2.2.2.2.2.2.2.1
theorem dX8_copy_r83 : zdcP cX8_copy 83 [(.ireturn, 1), (.aload_n 0, 1), (.getfield 56, 3), (.iload_n 1, 1), (.iaload, 1), (.ifCond .eq 12, 3), (.aload_n 0, 1), (.getfield 56, 3), (.iload_n 2, 1), (.iaload, 1), (.ifCond .ne 10, 3), (.aload_n 0, 1), (.bipush (-3), 2), (.invokevirtual 115, 3), (.ireturn, 1), (.iload 5, 2)] := zdcA_ok (by decide +kernel)
theorem dX8_copy_83 : decode cX8_copy 83 = .ok (.ireturn, 1) := dX8_copy_r83.1
theorem dX8_copy_84 : decode cX8_copy 84 = .ok (.aload_n 0, 1) := dX8_copy_r83.2.1
theorem dX8_copy_85 : decode cX8_copy 85 = .ok (.getfield 56, 3) := dX8_copy_r83.2.2.1
theorem dX8_copy_88 : decode cX8_copy 88 = .ok (.iload_n 1, 1) := dX8_copy_r83.2.2.2.1
theorem dX8_copy_89 : decode cX8_copy 89 = .ok (.iaload, 1) := dX8_copy_r83.2.2.2.2.1
theorem dX8_copy_90 : decode cX8_copy 90 = .ok (.ifCond .eq 12, 3) := dX8_copy_r83.2.2.2.2.2.1
theorem dX8_copy_93 : decode cX8_copy 93 = .ok (.aload_n 0, 1) := dX8_copy_r83.2.2.2.2.2.2.1
theorem dX8_copy_94 : decode cX8_copy 94 = .ok (.getfield 56, 3) := dX8_copy_r83.2.2.2.2.2.2.2.1
theorem dX8_copy_97 : decode cX8_copy 97 = .ok (.iload_n 2, 1) := dX8_copy_r83.2.2.2.2.2.2.2.2.1
theorem dX8_copy_98 : decode cX8_copy 98 = .ok (.iaload, 1) := dX8_copy_r83.2.2.2.2.2.2.2.2.2.1
theorem dX8_copy_99 : decode cX8_copy 99 = .ok (.ifCond .ne 10, 3) := dX8_copy_r83.2.2.2.2.2.2.2.2.2.2.1
theorem dX8_copy_102 : decode cX8_copy 102 = .ok (.aload_n 0, 1) := dX8_copy_r83.2.2.2.2.2.2.2.2.2.2.2.1
theorem dX8_copy_103 : decode cX8_copy 103 = .ok (.bipush (-3), 2) := dX8_copy_r83.2.2.2.2.2.2.2.2.2.2.2.2.1
theorem dX8_copy_105 : decode cX8_copy 105 = .ok (.invokevirtual 115, 3) := dX8_copy_r83.2.2.2.2.2.2.2.2.2.2.2.2.2.1
theorem dX8_copy_108 : decode cX8_copy 108 = .ok (.ireturn, 1) := dX8_copy_r83.2.2.2.2.2.2.2.2.2.2.2.2.2.2.1
theorem dX8_copy_109 : decode cX8_copy 109 = .ok (.iload 5, 2) := dX8_copy_r83.2.2.2.2.2.2.2.2.2.2.2.2.2.2.2.1
theorem dX8_copy_r111 : zdcP cX8_copy 111 [(.ifCond .ge 10, 3), (.aload_n 0, 1), (.bipush (-4), 2), (.invokevirtual 115, 3), (.ireturn, 1), (.iload_n 3, 1), (.ifCond .lt 35, 3), (.iload 4, 2), (.ifCond .lt 30, 3), (.iload_n 3, 1), (.aload_n 0, 1), (.getfield 62, 3), (.iload_n 1, 1), (.iaload, 1), (.iload 5, 2), (.isub, 1)] := zdcA_ok (by decide +kernel)
theorem dX8_copy_111 : decode cX8_copy 111 = .ok (.ifCond .ge 10, 3) := dX8_copy_r111.1
theorem dX8_copy_114 : decode cX8_copy 114 = .ok (.aload_n 0, 1) := dX8_copy_r111.2.1
theorem dX8_copy_115 : decode cX8_copy 115 = .ok (.bipush (-4), 2) := dX8_copy_r111.2.2.1
theorem dX8_copy_117 : decode cX8_copy 117 = .ok (.invokevirtual 115, 3) := dX8_copy_r111.2.2.2.1
theorem dX8_copy_120 : decode cX8_copy 120 = .ok (.ireturn, 1) := dX8_copy_r111.2.2.2.2.1
theorem dX8_copy_121 : decode cX8_copy 121 = .ok (.iload_n 3, 1) := dX8_copy_r111.2.2.2.2.2.1
theorem dX8_copy_122 : decode cX8_copy 122 = .ok (.ifCond .lt 35, 3) := dX8_copy_r111.2.2.2.2.2.2.1
theorem dX8_copy_125 : decode cX8_copy 125 = .ok (.iload 4, 2) := dX8_copy_r111.2.2.2.2.2.2.2.1
theorem dX8_copy_127 : decode cX8_copy 127 = .ok (.ifCond .lt 30, 3) := dX8_copy_r111.2.2.2.2.2.2.2.2.1
theorem dX8_copy_130 : decode cX8_copy 130 = .ok (.iload_n 3, 1) := dX8_copy_r111.2.2.2.2.2.2.2.2.2.1
theorem dX8_copy_131 : decode cX8_copy 131 = .ok (.aload_n 0, 1) := dX8_copy_r111.2.2.2.2.2.2.2.2.2.2.1
theorem dX8_copy_132 : decode cX8_copy 132 = .ok (.getfield 62, 3) := dX8_copy_r111.2.2.2.2.2.2.2.2.2.2.2.1
theorem dX8_copy_135 : decode cX8_copy 135 = .ok (.iload_n 1, 1) := dX8_copy_r111.2.2.2.2.2.2.2.2.2.2.2.2.1
theorem dX8_copy_136 : decode cX8_copy 136 = .ok (.iaload, 1) := dX8_copy_r111.2.2.2.2.2.2.2.2.2.2.2.2.2.1
theorem dX8_copy_137 : decode cX8_copy 137 = .ok (.iload 5, 2) := dX8_copy_r111.2.2.2.2.2.2.2.2.2.2.2.2.2.2.1
theorem dX8_copy_139 : decode cX8_copy 139 = .ok (.isub, 1) := dX8_copy_r111.2.2.2.2.2.2.2.2.2.2.2.2.2.2.2.1
theorem dX8_copy_r140 : zdcP cX8_copy 140 [(.if_icmp .gt 17, 3), (.iload 4, 2), (.aload_n 0, 1), (.getfield 62, 3), (.iload_n 2, 1), (.iaload, 1), (.iload 5, 2), (.isub, 1), (.if_icmp .le 10, 3), (.aload_n 0, 1), (.bipush (-5), 2), (.invokevirtual 115, 3), (.ireturn, 1), (.iconst 0, 1), (.istore 6, 2), (.iload 6, 2)] := zdcA_ok (by decide +kernel)
theorem dX8_copy_140 : decode cX8_copy 140 = .ok (.if_icmp .gt 17, 3) := dX8_copy_r140.1
theorem dX8_copy_143 : decode cX8_copy 143 = .ok (.iload 4, 2) := dX8_copy_r140.2.1
theorem dX8_copy_145 : decode cX8_copy 145 = .ok (.aload_n 0, 1) := dX8_copy_r140.2.2.1
theorem dX8_copy_146 : decode cX8_copy 146 = .ok (.getfield 62, 3) := dX8_copy_r140.2.2.2.1
theorem dX8_copy_149 : decode cX8_copy 149 = .ok (.iload_n 2, 1) := dX8_copy_r140.2.2.2.2.1
theorem dX8_copy_150 : decode cX8_copy 150 = .ok (.iaload, 1) := dX8_copy_r140.2.2.2.2.2.1
theorem dX8_copy_151 : decode cX8_copy 151 = .ok (.iload 5, 2) := dX8_copy_r140.2.2.2.2.2.2.1
theorem dX8_copy_153 : decode cX8_copy 153 = .ok (.isub, 1) := dX8_copy_r140.2.2.2.2.2.2.2.1
theorem dX8_copy_154 : decode cX8_copy 154 = .ok (.if_icmp .le 10, 3) := dX8_copy_r140.2.2.2.2.2.2.2.2.1
theorem dX8_copy_157 : decode cX8_copy 157 = .ok (.aload_n 0, 1) := dX8_copy_r140.2.2.2.2.2.2.2.2.2.1
theorem dX8_copy_158 : decode cX8_copy 158 = .ok (.bipush (-5), 2) := dX8_copy_r140.2.2.2.2.2.2.2.2.2.2.1
theorem dX8_copy_160 : decode cX8_copy 160 = .ok (.invokevirtual 115, 3) := dX8_copy_r140.2.2.2.2.2.2.2.2.2.2.2.1
theorem dX8_copy_163 : decode cX8_copy 163 = .ok (.ireturn, 1) := dX8_copy_r140.2.2.2.2.2.2.2.2.2.2.2.2.1
theorem dX8_copy_164 : decode cX8_copy 164 = .ok (.iconst 0, 1) := dX8_copy_r140.2.2.2.2.2.2.2.2.2.2.2.2.2.1
theorem dX8_copy_165 : decode cX8_copy 165 = .ok (.istore 6, 2) := dX8_copy_r140.2.2.2.2.2.2.2.2.2.2.2.2.2.2.1
theorem dX8_copy_167 : decode cX8_copy 167 = .ok (.iload 6, 2) := dX8_copy_r140.2.2.2.2.2.2.2.2.2.2.2.2.2.2.2.1
theorem dX8_copy_r169 : zdcP cX8_copy 169 [(.iload 5, 2), (.if_icmp .ge 31, 3), (.aload_n 0, 1), (.getfield 72, 3), (.iload 6, 2), (.aload_n 0, 1), (.getfield 68, 3), (.sipush 160, 3), (.iload_n 1, 1), (.imul, 1), (.iload_n 3, 1), (.iadd, 1), (.iload 6, 2), (.iadd, 1), (.laload, 1), (.lastore, 1)] := zdcA_ok (by decide +kernel)
theorem dX8_copy_169 : decode cX8_copy 169 = .ok (.iload 5, 2) := dX8_copy_r169.1
theorem dX8_copy_171 : decode cX8_copy 171 = .ok (.if_icmp .ge 31, 3) := dX8_copy_r169.2.1
theorem dX8_copy_174 : decode cX8_copy 174 = .ok (.aload_n 0, 1) := dX8_copy_r169.2.2.1
theorem dX8_copy_175 : decode cX8_copy 175 = .ok (.getfield 72, 3) := dX8_copy_r169.2.2.2.1
theorem dX8_copy_178 : decode cX8_copy 178 = .ok (.iload 6, 2) := dX8_copy_r169.2.2.2.2.1
theorem dX8_copy_180 : decode cX8_copy 180 = .ok (.aload_n 0, 1) := dX8_copy_r169.2.2.2.2.2.1
theorem dX8_copy_181 : decode cX8_copy 181 = .ok (.getfield 68, 3) := dX8_copy_r169.2.2.2.2.2.2.1
theorem dX8_copy_184 : decode cX8_copy 184 = .ok (.sipush 160, 3) := dX8_copy_r169.2.2.2.2.2.2.2.1
theorem dX8_copy_187 : decode cX8_copy 187 = .ok (.iload_n 1, 1) := dX8_copy_r169.2.2.2.2.2.2.2.2.1
theorem dX8_copy_188 : decode cX8_copy 188 = .ok (.imul, 1) := dX8_copy_r169.2.2.2.2.2.2.2.2.2.1
theorem dX8_copy_189 : decode cX8_copy 189 = .ok (.iload_n 3, 1) := dX8_copy_r169.2.2.2.2.2.2.2.2.2.2.1
theorem dX8_copy_190 : decode cX8_copy 190 = .ok (.iadd, 1) := dX8_copy_r169.2.2.2.2.2.2.2.2.2.2.2.1
theorem dX8_copy_191 : decode cX8_copy 191 = .ok (.iload 6, 2) := dX8_copy_r169.2.2.2.2.2.2.2.2.2.2.2.2.1
theorem dX8_copy_193 : decode cX8_copy 193 = .ok (.iadd, 1) := dX8_copy_r169.2.2.2.2.2.2.2.2.2.2.2.2.2.1
theorem dX8_copy_194 : decode cX8_copy 194 = .ok (.laload, 1) := dX8_copy_r169.2.2.2.2.2.2.2.2.2.2.2.2.2.2.1
theorem dX8_copy_195 : decode cX8_copy 195 = .ok (.lastore, 1) := dX8_copy_r169.2.2.2.2.2.2.2.2.2.2.2.2.2.2.2.1
theorem dX8_copy_r196 : zdcP cX8_copy 196 [(.iinc 6 1, 3), (.goto (-32), 3), (.iconst 0, 1), (.istore 6, 2), (.iload 6, 2), (.iload 5, 2), (.if_icmp .ge 32, 3), (.aload_n 0, 1), (.getfield 68, 3), (.sipush 160, 3), (.iload_n 2, 1), (.imul, 1), (.iload 4, 2), (.iadd, 1), (.iload 6, 2), (.iadd, 1)] := zdcA_ok (by decide +kernel)
theorem dX8_copy_196 : decode cX8_copy 196 = .ok (.iinc 6 1, 3) := dX8_copy_r196.1
theorem dX8_copy_199 : decode cX8_copy 199 = .ok (.goto (-32), 3) := dX8_copy_r196.2.1
theorem dX8_copy_202 : decode cX8_copy 202 = .ok (.iconst 0, 1) := dX8_copy_r196.2.2.1
theorem dX8_copy_203 : decode cX8_copy 203 = .ok (.istore 6, 2) := dX8_copy_r196.2.2.2.1
theorem dX8_copy_205 : decode cX8_copy 205 = .ok (.iload 6, 2) := dX8_copy_r196.2.2.2.2.1
theorem dX8_copy_207 : decode cX8_copy 207 = .ok (.iload 5, 2) := dX8_copy_r196.2.2.2.2.2.1
theorem dX8_copy_209 : decode cX8_copy 209 = .ok (.if_icmp .ge 32, 3) := dX8_copy_r196.2.2.2.2.2.2.1
theorem dX8_copy_212 : decode cX8_copy 212 = .ok (.aload_n 0, 1) := dX8_copy_r196.2.2.2.2.2.2.2.1
theorem dX8_copy_213 : decode cX8_copy 213 = .ok (.getfield 68, 3) := dX8_copy_r196.2.2.2.2.2.2.2.2.1
theorem dX8_copy_216 : decode cX8_copy 216 = .ok (.sipush 160, 3) := dX8_copy_r196.2.2.2.2.2.2.2.2.2.1
theorem dX8_copy_219 : decode cX8_copy 219 = .ok (.iload_n 2, 1) := dX8_copy_r196.2.2.2.2.2.2.2.2.2.2.1
theorem dX8_copy_220 : decode cX8_copy 220 = .ok (.imul, 1) := dX8_copy_r196.2.2.2.2.2.2.2.2.2.2.2.1
theorem dX8_copy_221 : decode cX8_copy 221 = .ok (.iload 4, 2) := dX8_copy_r196.2.2.2.2.2.2.2.2.2.2.2.2.1
theorem dX8_copy_223 : decode cX8_copy 223 = .ok (.iadd, 1) := dX8_copy_r196.2.2.2.2.2.2.2.2.2.2.2.2.2.1
theorem dX8_copy_224 : decode cX8_copy 224 = .ok (.iload 6, 2) := dX8_copy_r196.2.2.2.2.2.2.2.2.2.2.2.2.2.2.1
theorem dX8_copy_226 : decode cX8_copy 226 = .ok (.iadd, 1) := dX8_copy_r196.2.2.2.2.2.2.2.2.2.2.2.2.2.2.2.1
theorem dX8_copy_r227 : zdcP cX8_copy 227 [(.aload_n 0, 1), (.getfield 72, 3), (.iload 6, 2), (.laload, 1), (.lastore, 1), (.iinc 6 1, 3), (.goto (-33), 3), (.iconst 1, 1), (.ireturn, 1)] := zdcA_ok (by decide +kernel)
theorem dX8_copy_227 : decode cX8_copy 227 = .ok (.aload_n 0, 1) := dX8_copy_r227.1
theorem dX8_copy_228 : decode cX8_copy 228 = .ok (.getfield 72, 3) := dX8_copy_r227.2.1
theorem dX8_copy_231 : decode cX8_copy 231 = .ok (.iload 6, 2) := dX8_copy_r227.2.2.1
theorem dX8_copy_233 : decode cX8_copy 233 = .ok (.laload, 1) := dX8_copy_r227.2.2.2.1
theorem dX8_copy_234 : decode cX8_copy 234 = .ok (.lastore, 1) := dX8_copy_r227.2.2.2.2.1
theorem dX8_copy_235 : decode cX8_copy 235 = .ok (.iinc 6 1, 3) := dX8_copy_r227.2.2.2.2.2.1
theorem dX8_copy_238 : decode cX8_copy 238 = .ok (.goto (-33), 3) := dX8_copy_r227.2.2.2.2.2.2.1
theorem dX8_copy_241 : decode cX8_copy 241 = .ok (.iconst 1, 1) := dX8_copy_r227.2.2.2.2.2.2.2.1
theorem dX8_copy_242 : decode cX8_copy 242 = .ok (.ireturn, 1) := dX8_copy_r227.2.2.2.2.2.2.2.2.1
def wq_132_205 (v1 : Int32) (v2 : Int32) (v3 : Int32) (v4 : Int32) (v5 : Int32) (Q : Int32 → zf_Me → Prop) : Nat → Int32 → zf_Me → Prop
  | 0, _, _ => False
  | n + 1, v6, m => ((v6.toInt ≥ v5.toInt → Q 1 m) ∧ (v6.toInt < v5.toInt → ((0 ≤ (Int32.toInt v6) ∧ (Int32.toInt v6) < (160 : Int)) ∧ ((0 ≤ (Int32.toInt (((160 * v2) + v4) + v6)) ∧ (Int32.toInt (((160 * v2) + v4) + v6)) < (1280 : Int)) ∧ ∀ m19, m19 = zf_ul m 74 (Int32.toInt (((160 * v2) + v4) + v6)).toNat (m.2 75 (Int32.toInt v6).toNat) → wq_132_205 v1 v2 v3 v4 v5 Q n (v6 + 1) m19))))
theorem zq_132_205 {d : Nat} (hd : 1 ≤ d) {v1 : Int32} {v2 : Int32} {v3 : Int32} {v4 : Int32} {v5 : Int32} {Q : Int32 → zf_Me → Prop} : ∀ (n : Nat) (v6 : Int32) (m : zf_Me), wq_132_205 v1 v2 v3 v4 v5 Q n v6 m → zf_W none 0 0 d zt_132 205 [some (.inr (.inr (1, 63))), none, some (.inl v2), none, some (.inl v4), some (.inl v5), some (.inl v6)] [] m (zf_I Q) := by
  intro n
  induction n with
  | zero =>
    intro v6 m h
    exact h.elim
  | succ n ih =>
    intro v6 m h
    unfold wq_132_205 at h
    refine zf_ld (pc' := 207) (v := .inl v6) dX8_copy_205 rfl (fun _ _ _ => rfl) rfl rfl rfl ?_
    refine zf_ld (pc' := 209) (v := .inl v5) dX8_copy_207 rfl (fun _ _ _ => rfl) rfl rfl rfl ?_
    refine zf_icmp_ge (tgt := 241) (pc' := 212) dX8_copy_209 rfl rfl (fun g => ?_) (fun g => ?_)
    · replace h := h.1 g
      refine zf_ic (v := 1) (pc' := 242) dX8_copy_241 rfl rfl ?_
      exact zf_ri dX8_copy_242 rfl h
    · replace h := h.2 g
      refine zf_ld (pc' := 213) (v := .inr (.inr (1, 63))) dX8_copy_212 rfl (fun _ _ _ => rfl) rfl rfl rfl ?_
      refine zf_gfr (pc' := 216) (b := 74) dX8_copy_213 rfl rfl (by decide) rfl rfl ?_
      refine zf_si (v := 160) (pc' := 219) dX8_copy_216 rfl rfl ?_
      refine zf_ld (pc' := 220) (v := .inl v2) dX8_copy_219 rfl (fun _ _ _ => rfl) rfl rfl rfl ?_
      refine zf_in (pc' := 221) (S' := [.inl (160 * v2), .inr (.inr (1, 74))]) dX8_copy_220 rfl (fun _ _ _ => rfl) ?_
      refine zf_ld (pc' := 223) (v := .inl v4) dX8_copy_221 rfl (fun _ _ _ => rfl) rfl rfl rfl ?_
      refine zf_in (pc' := 224) (S' := [.inl ((160 * v2) + v4), .inr (.inr (1, 74))]) dX8_copy_223 rfl (fun _ _ _ => rfl) ?_
      refine zf_ld (pc' := 226) (v := .inl v6) dX8_copy_224 rfl (fun _ _ _ => rfl) rfl rfl rfl ?_
      refine zf_in (pc' := 227) (S' := [.inl (((160 * v2) + v4) + v6), .inr (.inr (1, 74))]) dX8_copy_226 rfl (fun _ _ _ => rfl) ?_
      refine zf_ld (pc' := 228) (v := .inr (.inr (1, 63))) dX8_copy_227 rfl (fun _ _ _ => rfl) rfl rfl rfl ?_
      refine zf_gfr (pc' := 231) (b := 75) dX8_copy_228 rfl rfl (by decide) rfl rfl ?_
      refine zf_ld (pc' := 233) (v := .inl v6) dX8_copy_231 rfl (fun _ _ _ => rfl) rfl rfl rfl ?_
      refine zf_lal (pc' := 234) dX8_copy_233 rfl (⟨by decide, rfl⟩ : zf_larr 75 160).1 (⟨by decide, rfl⟩ : zf_larr 75 160).2 h.1 rfl ?_
      replace h := h.2
      refine zf_las (pc' := 235) dX8_copy_234 rfl (⟨by decide, rfl⟩ : zf_larr 74 1280).1 (⟨by decide, rfl⟩ : zf_larr 74 1280).2 h.1 rfl (fun m19 e20 => ?_)
      replace h := h.2 m19 e20
      refine zf_ii (y := (v6 + 1)) (L2 := [some (.inr (.inr (1, 63))), none, some (.inl v2), none, some (.inl v4), some (.inl v5), some (.inl (v6 + 1))]) (pc' := 238) dX8_copy_235 rfl rfl rfl rfl rfl ?_
      refine zf_goto (tgt := 205) dX8_copy_238 rfl ?_
      exact zf_lo (ih _ _ h) ⟨rfl, rfl, rfl, rfl, rfl, trivial⟩
def wq_132_167 (v1 : Int32) (v2 : Int32) (v3 : Int32) (v4 : Int32) (v5 : Int32) (Q : Int32 → zf_Me → Prop) : Nat → Int32 → zf_Me → Prop
  | 0, _, _ => False
  | n + 1, v6, m => ((v6.toInt ≥ v5.toInt → (∃ n205, wq_132_205 v1 v2 v3 v4 v5 Q n205 0 m)) ∧ (v6.toInt < v5.toInt → ((0 ≤ (Int32.toInt (((160 * v1) + v3) + v6)) ∧ (Int32.toInt (((160 * v1) + v3) + v6)) < (1280 : Int)) ∧ ((0 ≤ (Int32.toInt v6) ∧ (Int32.toInt v6) < (160 : Int)) ∧ ∀ m21, m21 = zf_ul m 75 (Int32.toInt v6).toNat (m.2 74 (Int32.toInt (((160 * v1) + v3) + v6)).toNat) → wq_132_167 v1 v2 v3 v4 v5 Q n (v6 + 1) m21))))
theorem zq_132_167 {d : Nat} (hd : 1 ≤ d) {v1 : Int32} {v2 : Int32} {v3 : Int32} {v4 : Int32} {v5 : Int32} {Q : Int32 → zf_Me → Prop} : ∀ (n : Nat) (v6 : Int32) (m : zf_Me), wq_132_167 v1 v2 v3 v4 v5 Q n v6 m → zf_W none 0 0 d zt_132 167 [some (.inr (.inr (1, 63))), some (.inl v1), some (.inl v2), some (.inl v3), some (.inl v4), some (.inl v5), some (.inl v6)] [] m (zf_I Q) := by
  intro n
  induction n with
  | zero =>
    intro v6 m h
    exact h.elim
  | succ n ih =>
    intro v6 m h
    unfold wq_132_167 at h
    refine zf_ld (pc' := 169) (v := .inl v6) dX8_copy_167 rfl (fun _ _ _ => rfl) rfl rfl rfl ?_
    refine zf_ld (pc' := 171) (v := .inl v5) dX8_copy_169 rfl (fun _ _ _ => rfl) rfl rfl rfl ?_
    refine zf_icmp_ge (tgt := 202) (pc' := 174) dX8_copy_171 rfl rfl (fun g => ?_) (fun g => ?_)
    · replace h := h.1 g
      refine zf_ic (v := 0) (pc' := 203) dX8_copy_202 rfl rfl ?_
      refine zf_st (pc' := 205) (L2 := [some (.inr (.inr (1, 63))), some (.inl v1), some (.inl v2), some (.inl v3), some (.inl v4), some (.inl v5), some (.inl 0)]) dX8_copy_203 rfl (fun _ _ _ => rfl) rfl rfl rfl rfl rfl rfl ?_
      obtain ⟨n205, h⟩ := h
      exact zf_lo (zq_132_205 (by omega) n205 _ _ h) ⟨rfl, rfl, rfl, rfl, rfl, trivial⟩
    · replace h := h.2 g
      refine zf_ld (pc' := 175) (v := .inr (.inr (1, 63))) dX8_copy_174 rfl (fun _ _ _ => rfl) rfl rfl rfl ?_
      refine zf_gfr (pc' := 178) (b := 75) dX8_copy_175 rfl rfl (by decide) rfl rfl ?_
      refine zf_ld (pc' := 180) (v := .inl v6) dX8_copy_178 rfl (fun _ _ _ => rfl) rfl rfl rfl ?_
      refine zf_ld (pc' := 181) (v := .inr (.inr (1, 63))) dX8_copy_180 rfl (fun _ _ _ => rfl) rfl rfl rfl ?_
      refine zf_gfr (pc' := 184) (b := 74) dX8_copy_181 rfl rfl (by decide) rfl rfl ?_
      refine zf_si (v := 160) (pc' := 187) dX8_copy_184 rfl rfl ?_
      refine zf_ld (pc' := 188) (v := .inl v1) dX8_copy_187 rfl (fun _ _ _ => rfl) rfl rfl rfl ?_
      refine zf_in (pc' := 189) (S' := [.inl (160 * v1), .inr (.inr (1, 74)), .inl v6, .inr (.inr (1, 75))]) dX8_copy_188 rfl (fun _ _ _ => rfl) ?_
      refine zf_ld (pc' := 190) (v := .inl v3) dX8_copy_189 rfl (fun _ _ _ => rfl) rfl rfl rfl ?_
      refine zf_in (pc' := 191) (S' := [.inl ((160 * v1) + v3), .inr (.inr (1, 74)), .inl v6, .inr (.inr (1, 75))]) dX8_copy_190 rfl (fun _ _ _ => rfl) ?_
      refine zf_ld (pc' := 193) (v := .inl v6) dX8_copy_191 rfl (fun _ _ _ => rfl) rfl rfl rfl ?_
      refine zf_in (pc' := 194) (S' := [.inl (((160 * v1) + v3) + v6), .inr (.inr (1, 74)), .inl v6, .inr (.inr (1, 75))]) dX8_copy_193 rfl (fun _ _ _ => rfl) ?_
      refine zf_lal (pc' := 195) dX8_copy_194 rfl (⟨by decide, rfl⟩ : zf_larr 74 1280).1 (⟨by decide, rfl⟩ : zf_larr 74 1280).2 h.1 rfl ?_
      replace h := h.2
      refine zf_las (pc' := 196) dX8_copy_195 rfl (⟨by decide, rfl⟩ : zf_larr 75 160).1 (⟨by decide, rfl⟩ : zf_larr 75 160).2 h.1 rfl (fun m21 e22 => ?_)
      replace h := h.2 m21 e22
      refine zf_ii (y := (v6 + 1)) (L2 := [some (.inr (.inr (1, 63))), some (.inl v1), some (.inl v2), some (.inl v3), some (.inl v4), some (.inl v5), some (.inl (v6 + 1))]) (pc' := 199) dX8_copy_196 rfl rfl rfl rfl rfl ?_
      refine zf_goto (tgt := 167) dX8_copy_199 rfl ?_
      exact zf_lo (ih _ _ h) ⟨rfl, rfl, rfl, rfl, rfl, rfl, rfl, trivial⟩
def wq_132_84 (v1 : Int32) (v2 : Int32) (v3 : Int32) (v4 : Int32) (v5 : Int32) (m : zf_Me) (Q : Int32 → zf_Me → Prop) : Prop := ((0 ≤ (Int32.toInt v1) ∧ (Int32.toInt v1) < (8 : Int)) ∧ ((((m.1 70 (Int32.toInt v1).toNat)).toInt = 0 → wp_125 (-3) m (fun x11 m12 => Q x11 m12)) ∧ (¬ ((m.1 70 (Int32.toInt v1).toNat)).toInt = 0 → ((0 ≤ (Int32.toInt v2) ∧ (Int32.toInt v2) < (8 : Int)) ∧ ((¬ ((m.1 70 (Int32.toInt v2).toNat)).toInt = 0 → ((v5.toInt ≥ 0 → ((v3.toInt < 0 → wp_125 (-5) m (fun x13 m14 => Q x13 m14)) ∧ (v3.toInt ≥ 0 → ((v4.toInt < 0 → wp_125 (-5) m (fun x15 m16 => Q x15 m16)) ∧ (v4.toInt ≥ 0 → ((0 ≤ (Int32.toInt v1) ∧ (Int32.toInt v1) < (8 : Int)) ∧ ((v3.toInt > (((m.1 72 (Int32.toInt v1).toNat) - v5)).toInt → wp_125 (-5) m (fun x17 m18 => Q x17 m18)) ∧ (v3.toInt ≤ (((m.1 72 (Int32.toInt v1).toNat) - v5)).toInt → ((0 ≤ (Int32.toInt v2) ∧ (Int32.toInt v2) < (8 : Int)) ∧ ((v4.toInt ≤ (((m.1 72 (Int32.toInt v2).toNat) - v5)).toInt → (∃ n167, wq_132_167 v1 v2 v3 v4 v5 Q n167 0 m)) ∧ (v4.toInt > (((m.1 72 (Int32.toInt v2).toNat) - v5)).toInt → wp_125 (-5) m (fun x23 m24 => Q x23 m24)))))))))))) ∧ (v5.toInt < 0 → wp_125 (-4) m (fun x25 m26 => Q x25 m26)))) ∧ (((m.1 70 (Int32.toInt v2).toNat)).toInt = 0 → wp_125 (-3) m (fun x27 m28 => Q x27 m28)))))))
theorem zq_132_84 {d : Nat} (hd : 1 ≤ d) {v1 : Int32} {v2 : Int32} {v3 : Int32} {v4 : Int32} {v5 : Int32} {Q : Int32 → zf_Me → Prop} {m : zf_Me} (h : wq_132_84 v1 v2 v3 v4 v5 m Q) : zf_W none 0 0 d zt_132 84 [some (.inr (.inr (1, 63))), some (.inl v1), some (.inl v2), some (.inl v3), some (.inl v4), some (.inl v5), none] [] m (zf_I Q) := by
  obtain ⟨e, rfl⟩ : ∃ z, d = z + 1 := ⟨d - 1, by omega⟩
  unfold wq_132_84 at h
  refine zf_ld (pc' := 85) (v := .inr (.inr (1, 63))) dX8_copy_84 rfl (fun _ _ _ => rfl) rfl rfl rfl ?_
  refine zf_gfr (pc' := 88) (b := 70) dX8_copy_85 rfl rfl (by decide) rfl rfl ?_
  refine zf_ld (pc' := 89) (v := .inl v1) dX8_copy_88 rfl (fun _ _ _ => rfl) rfl rfl rfl ?_
  refine zf_ial (pc' := 90) dX8_copy_89 rfl (⟨by decide, rfl⟩ : zf_arr 70 8).1 (⟨by decide, rfl⟩ : zf_arr 70 8).2 h.1 rfl ?_
  replace h := h.2
  refine zf_if_eq (tgt := 102) (pc' := 93) dX8_copy_90 rfl rfl (fun g => ?_) (fun g => ?_)
  · replace h := h.1 g
    refine zf_ld (pc' := 103) (v := .inr (.inr (1, 63))) dX8_copy_102 rfl (fun _ _ _ => rfl) rfl rfl rfl ?_
    refine zf_bi (v := (-3)) (pc' := 105) dX8_copy_103 rfl rfl ?_
    refine zf_iv (k := 125) (pc' := 108) (r := []) dX8_copy_105 rfl rfl rfl rfl (by decide) rfl rfl rfl (zr_125 (by omega) h) (zf_kI (fun x11 m12 h => ?_))
    exact zf_ri dX8_copy_108 rfl h
  · replace h := h.2 g
    refine zf_ld (pc' := 94) (v := .inr (.inr (1, 63))) dX8_copy_93 rfl (fun _ _ _ => rfl) rfl rfl rfl ?_
    refine zf_gfr (pc' := 97) (b := 70) dX8_copy_94 rfl rfl (by decide) rfl rfl ?_
    refine zf_ld (pc' := 98) (v := .inl v2) dX8_copy_97 rfl (fun _ _ _ => rfl) rfl rfl rfl ?_
    refine zf_ial (pc' := 99) dX8_copy_98 rfl (⟨by decide, rfl⟩ : zf_arr 70 8).1 (⟨by decide, rfl⟩ : zf_arr 70 8).2 h.1 rfl ?_
    replace h := h.2
    refine zf_if_ne (tgt := 109) (pc' := 102) dX8_copy_99 rfl rfl (fun g => ?_) (fun g => ?_)
    · replace h := h.1 g
      refine zf_ld (pc' := 111) (v := .inl v5) dX8_copy_109 rfl (fun _ _ _ => rfl) rfl rfl rfl ?_
      refine zf_if_ge (tgt := 121) (pc' := 114) dX8_copy_111 rfl rfl (fun g => ?_) (fun g => ?_)
      · replace h := h.1 g
        refine zf_ld (pc' := 122) (v := .inl v3) dX8_copy_121 rfl (fun _ _ _ => rfl) rfl rfl rfl ?_
        refine zf_if_lt (tgt := 157) (pc' := 125) dX8_copy_122 rfl rfl (fun g => ?_) (fun g => ?_)
        · replace h := h.1 g
          refine zf_ld (pc' := 158) (v := .inr (.inr (1, 63))) dX8_copy_157 rfl (fun _ _ _ => rfl) rfl rfl rfl ?_
          refine zf_bi (v := (-5)) (pc' := 160) dX8_copy_158 rfl rfl ?_
          refine zf_iv (k := 125) (pc' := 163) (r := []) dX8_copy_160 rfl rfl rfl rfl (by decide) rfl rfl rfl (zr_125 (by omega) h) (zf_kI (fun x13 m14 h => ?_))
          exact zf_ri dX8_copy_163 rfl h
        · replace h := h.2 g
          refine zf_ld (pc' := 127) (v := .inl v4) dX8_copy_125 rfl (fun _ _ _ => rfl) rfl rfl rfl ?_
          refine zf_if_lt (tgt := 157) (pc' := 130) dX8_copy_127 rfl rfl (fun g => ?_) (fun g => ?_)
          · replace h := h.1 g
            refine zf_ld (pc' := 158) (v := .inr (.inr (1, 63))) dX8_copy_157 rfl (fun _ _ _ => rfl) rfl rfl rfl ?_
            refine zf_bi (v := (-5)) (pc' := 160) dX8_copy_158 rfl rfl ?_
            refine zf_iv (k := 125) (pc' := 163) (r := []) dX8_copy_160 rfl rfl rfl rfl (by decide) rfl rfl rfl (zr_125 (by omega) h) (zf_kI (fun x15 m16 h => ?_))
            exact zf_ri dX8_copy_163 rfl h
          · replace h := h.2 g
            refine zf_ld (pc' := 131) (v := .inl v3) dX8_copy_130 rfl (fun _ _ _ => rfl) rfl rfl rfl ?_
            refine zf_ld (pc' := 132) (v := .inr (.inr (1, 63))) dX8_copy_131 rfl (fun _ _ _ => rfl) rfl rfl rfl ?_
            refine zf_gfr (pc' := 135) (b := 72) dX8_copy_132 rfl rfl (by decide) rfl rfl ?_
            refine zf_ld (pc' := 136) (v := .inl v1) dX8_copy_135 rfl (fun _ _ _ => rfl) rfl rfl rfl ?_
            refine zf_ial (pc' := 137) dX8_copy_136 rfl (⟨by decide, rfl⟩ : zf_arr 72 8).1 (⟨by decide, rfl⟩ : zf_arr 72 8).2 h.1 rfl ?_
            replace h := h.2
            refine zf_ld (pc' := 139) (v := .inl v5) dX8_copy_137 rfl (fun _ _ _ => rfl) rfl rfl rfl ?_
            refine zf_in (pc' := 140) (S' := [.inl ((m.1 72 (Int32.toInt v1).toNat) - v5), .inl v3]) dX8_copy_139 rfl (fun _ _ _ => rfl) ?_
            refine zf_icmp_gt (tgt := 157) (pc' := 143) dX8_copy_140 rfl rfl (fun g => ?_) (fun g => ?_)
            · replace h := h.1 g
              refine zf_ld (pc' := 158) (v := .inr (.inr (1, 63))) dX8_copy_157 rfl (fun _ _ _ => rfl) rfl rfl rfl ?_
              refine zf_bi (v := (-5)) (pc' := 160) dX8_copy_158 rfl rfl ?_
              refine zf_iv (k := 125) (pc' := 163) (r := []) dX8_copy_160 rfl rfl rfl rfl (by decide) rfl rfl rfl (zr_125 (by omega) h) (zf_kI (fun x17 m18 h => ?_))
              exact zf_ri dX8_copy_163 rfl h
            · replace h := h.2 g
              refine zf_ld (pc' := 145) (v := .inl v4) dX8_copy_143 rfl (fun _ _ _ => rfl) rfl rfl rfl ?_
              refine zf_ld (pc' := 146) (v := .inr (.inr (1, 63))) dX8_copy_145 rfl (fun _ _ _ => rfl) rfl rfl rfl ?_
              refine zf_gfr (pc' := 149) (b := 72) dX8_copy_146 rfl rfl (by decide) rfl rfl ?_
              refine zf_ld (pc' := 150) (v := .inl v2) dX8_copy_149 rfl (fun _ _ _ => rfl) rfl rfl rfl ?_
              refine zf_ial (pc' := 151) dX8_copy_150 rfl (⟨by decide, rfl⟩ : zf_arr 72 8).1 (⟨by decide, rfl⟩ : zf_arr 72 8).2 h.1 rfl ?_
              replace h := h.2
              refine zf_ld (pc' := 153) (v := .inl v5) dX8_copy_151 rfl (fun _ _ _ => rfl) rfl rfl rfl ?_
              refine zf_in (pc' := 154) (S' := [.inl ((m.1 72 (Int32.toInt v2).toNat) - v5), .inl v4]) dX8_copy_153 rfl (fun _ _ _ => rfl) ?_
              refine zf_icmp_le (tgt := 164) (pc' := 157) dX8_copy_154 rfl rfl (fun g => ?_) (fun g => ?_)
              · replace h := h.1 g
                refine zf_ic (v := 0) (pc' := 165) dX8_copy_164 rfl rfl ?_
                refine zf_st (pc' := 167) (L2 := [some (.inr (.inr (1, 63))), some (.inl v1), some (.inl v2), some (.inl v3), some (.inl v4), some (.inl v5), some (.inl 0)]) dX8_copy_165 rfl (fun _ _ _ => rfl) rfl rfl rfl rfl rfl rfl ?_
                obtain ⟨n167, h⟩ := h
                exact zf_lo (zq_132_167 (by omega) n167 _ _ h) ⟨rfl, rfl, rfl, rfl, rfl, rfl, rfl, trivial⟩
              · replace h := h.2 g
                refine zf_ld (pc' := 158) (v := .inr (.inr (1, 63))) dX8_copy_157 rfl (fun _ _ _ => rfl) rfl rfl rfl ?_
                refine zf_bi (v := (-5)) (pc' := 160) dX8_copy_158 rfl rfl ?_
                refine zf_iv (k := 125) (pc' := 163) (r := []) dX8_copy_160 rfl rfl rfl rfl (by decide) rfl rfl rfl (zr_125 (by omega) h) (zf_kI (fun x23 m24 h => ?_))
                exact zf_ri dX8_copy_163 rfl h
      · replace h := h.2 g
        refine zf_ld (pc' := 115) (v := .inr (.inr (1, 63))) dX8_copy_114 rfl (fun _ _ _ => rfl) rfl rfl rfl ?_
        refine zf_bi (v := (-4)) (pc' := 117) dX8_copy_115 rfl rfl ?_
        refine zf_iv (k := 125) (pc' := 120) (r := []) dX8_copy_117 rfl rfl rfl rfl (by decide) rfl rfl rfl (zr_125 (by omega) h) (zf_kI (fun x25 m26 h => ?_))
        exact zf_ri dX8_copy_120 rfl h
    · replace h := h.2 g
      refine zf_ld (pc' := 103) (v := .inr (.inr (1, 63))) dX8_copy_102 rfl (fun _ _ _ => rfl) rfl rfl rfl ?_
      refine zf_bi (v := (-3)) (pc' := 105) dX8_copy_103 rfl rfl ?_
      refine zf_iv (k := 125) (pc' := 108) (r := []) dX8_copy_105 rfl rfl rfl rfl (by decide) rfl rfl rfl (zr_125 (by omega) h) (zf_kI (fun x27 m28 h => ?_))
      exact zf_ri dX8_copy_108 rfl h
def wp_132 (v1 : Int32) (v2 : Int32) (v3 : Int32) (v4 : Int32) (v5 : Int32) (m : zf_Me) (Q : Int32 → zf_Me → Prop) : Prop := wp_127 v1 m (fun b1 m2 => ((b1 = false → wp_125 (-1) m2 (fun x3 m4 => Q x3 m4)) ∧ (b1 = true → wp_127 v2 m2 (fun b5 m6 => ((b5 = true → ((0 ≤ (Int32.toInt v1) ∧ (Int32.toInt v1) < (8 : Int)) ∧ ((((m6.1 70 (Int32.toInt v1).toNat)).toInt = 2 → wp_125 (-2) m6 (fun x7 m8 => Q x7 m8)) ∧ (¬ ((m6.1 70 (Int32.toInt v1).toNat)).toInt = 2 → ((0 ≤ (Int32.toInt v2) ∧ (Int32.toInt v2) < (8 : Int)) ∧ ((((m6.1 70 (Int32.toInt v2).toNat)).toInt = 2 → wp_125 (-2) m6 (fun x9 m10 => Q x9 m10)) ∧ (¬ ((m6.1 70 (Int32.toInt v2).toNat)).toInt = 2 → ((0 ≤ (Int32.toInt v1) ∧ (Int32.toInt v1) < (8 : Int)) ∧ ((¬ ((m6.1 70 (Int32.toInt v1).toNat)).toInt = 1 → wq_132_84 v1 v2 v3 v4 v5 m6 Q) ∧ (((m6.1 70 (Int32.toInt v1).toNat)).toInt = 1 → ((0 ≤ (Int32.toInt v2) ∧ (Int32.toInt v2) < (8 : Int)) ∧ ((¬ ((m6.1 70 (Int32.toInt v2).toNat)).toInt = 1 → wq_132_84 v1 v2 v3 v4 v5 m6 Q) ∧ (((m6.1 70 (Int32.toInt v2).toNat)).toInt = 1 → ((0 ≤ (Int32.toInt v1) ∧ (Int32.toInt v1) < (8 : Int)) ∧ ((0 ≤ (Int32.toInt v2) ∧ (Int32.toInt v2) < (8 : Int)) ∧ ((((m6.1 71 (Int32.toInt v1).toNat)).toInt = ((m6.1 71 (Int32.toInt v2).toNat)).toInt → wq_132_84 v1 v2 v3 v4 v5 m6 Q) ∧ (¬ ((m6.1 71 (Int32.toInt v1).toNat)).toInt = ((m6.1 71 (Int32.toInt v2).toNat)).toInt → wp_125 (-2) m6 (fun x29 m30 => Q x29 m30)))))))))))))))))) ∧ (b5 = false → wp_125 (-1) m6 (fun x31 m32 => Q x31 m32)))))))
theorem zr_132 {d : Nat} (hd : 1 ≤ d) {v1 : Int32} {v2 : Int32} {v3 : Int32} {v4 : Int32} {v5 : Int32} {Q : Int32 → zf_Me → Prop} {m : zf_Me} (h : wp_132 v1 v2 v3 v4 v5 m Q) : zf_M d 132 [.inr (.inr (1, 63)), .inl v1, .inl v2, .inl v3, .inl v4, .inl v5] m (zf_I Q) := by
  obtain ⟨e, rfl⟩ : ∃ z, d = z + 1 := ⟨d - 1, by omega⟩
  unfold wp_132 at h
  refine zf_M_of (Nat.le_of_ble_eq_true rfl) zm_132 (L := [some (.inr (.inr (1, 63))), some (.inl v1), some (.inl v2), some (.inl v3), some (.inl v4), some (.inl v5), none]) rfl ?_
  refine zf_ld (pc' := 1) (v := .inr (.inr (1, 63))) dX8_copy_0 rfl (fun _ _ _ => rfl) rfl rfl rfl ?_
  refine zf_ld (pc' := 2) (v := .inl v1) dX8_copy_1 rfl (fun _ _ _ => rfl) rfl rfl rfl ?_
  refine zf_iv (k := 127) (pc' := 5) (r := []) dX8_copy_2 rfl rfl rfl rfl (by decide) rfl rfl rfl (zr_127 (by omega) h) (zf_kB (fun b1 m2 h => ?_))
  refine zf_ib_eq (tgt := 16) (pc' := 8) dX8_copy_5 rfl rfl (fun g => ?_) (fun g => ?_)
  · replace h := h.1 g
    refine zf_ld (pc' := 17) (v := .inr (.inr (1, 63))) dX8_copy_16 rfl (fun _ _ _ => rfl) rfl rfl rfl ?_
    refine zf_ic (v := (-1)) (pc' := 18) dX8_copy_17 rfl rfl ?_
    refine zf_iv (k := 125) (pc' := 21) (r := []) dX8_copy_18 rfl rfl rfl rfl (by decide) rfl rfl rfl (zr_125 (by omega) h) (zf_kI (fun x3 m4 h => ?_))
    exact zf_ri dX8_copy_21 rfl h
  · replace h := h.2 g
    refine zf_ld (pc' := 9) (v := .inr (.inr (1, 63))) dX8_copy_8 rfl (fun _ _ _ => rfl) rfl rfl rfl ?_
    refine zf_ld (pc' := 10) (v := .inl v2) dX8_copy_9 rfl (fun _ _ _ => rfl) rfl rfl rfl ?_
    refine zf_iv (k := 127) (pc' := 13) (r := []) dX8_copy_10 rfl rfl rfl rfl (by decide) rfl rfl rfl (zr_127 (by omega) h) (zf_kB (fun b5 m6 h => ?_))
    refine zf_ib_ne (tgt := 22) (pc' := 16) dX8_copy_13 rfl rfl (fun g => ?_) (fun g => ?_)
    · replace h := h.1 g
      refine zf_ld (pc' := 23) (v := .inr (.inr (1, 63))) dX8_copy_22 rfl (fun _ _ _ => rfl) rfl rfl rfl ?_
      refine zf_gfr (pc' := 26) (b := 70) dX8_copy_23 rfl rfl (by decide) rfl rfl ?_
      refine zf_ld (pc' := 27) (v := .inl v1) dX8_copy_26 rfl (fun _ _ _ => rfl) rfl rfl rfl ?_
      refine zf_ial (pc' := 28) dX8_copy_27 rfl (⟨by decide, rfl⟩ : zf_arr 70 8).1 (⟨by decide, rfl⟩ : zf_arr 70 8).2 h.1 rfl ?_
      replace h := h.2
      refine zf_ic (v := 2) (pc' := 29) dX8_copy_28 rfl rfl ?_
      refine zf_icmp_eq (tgt := 77) (pc' := 32) dX8_copy_29 rfl rfl (fun g => ?_) (fun g => ?_)
      · replace h := h.1 g
        refine zf_ld (pc' := 78) (v := .inr (.inr (1, 63))) dX8_copy_77 rfl (fun _ _ _ => rfl) rfl rfl rfl ?_
        refine zf_bi (v := (-2)) (pc' := 80) dX8_copy_78 rfl rfl ?_
        refine zf_iv (k := 125) (pc' := 83) (r := []) dX8_copy_80 rfl rfl rfl rfl (by decide) rfl rfl rfl (zr_125 (by omega) h) (zf_kI (fun x7 m8 h => ?_))
        exact zf_ri dX8_copy_83 rfl h
      · replace h := h.2 g
        refine zf_ld (pc' := 33) (v := .inr (.inr (1, 63))) dX8_copy_32 rfl (fun _ _ _ => rfl) rfl rfl rfl ?_
        refine zf_gfr (pc' := 36) (b := 70) dX8_copy_33 rfl rfl (by decide) rfl rfl ?_
        refine zf_ld (pc' := 37) (v := .inl v2) dX8_copy_36 rfl (fun _ _ _ => rfl) rfl rfl rfl ?_
        refine zf_ial (pc' := 38) dX8_copy_37 rfl (⟨by decide, rfl⟩ : zf_arr 70 8).1 (⟨by decide, rfl⟩ : zf_arr 70 8).2 h.1 rfl ?_
        replace h := h.2
        refine zf_ic (v := 2) (pc' := 39) dX8_copy_38 rfl rfl ?_
        refine zf_icmp_eq (tgt := 77) (pc' := 42) dX8_copy_39 rfl rfl (fun g => ?_) (fun g => ?_)
        · replace h := h.1 g
          refine zf_ld (pc' := 78) (v := .inr (.inr (1, 63))) dX8_copy_77 rfl (fun _ _ _ => rfl) rfl rfl rfl ?_
          refine zf_bi (v := (-2)) (pc' := 80) dX8_copy_78 rfl rfl ?_
          refine zf_iv (k := 125) (pc' := 83) (r := []) dX8_copy_80 rfl rfl rfl rfl (by decide) rfl rfl rfl (zr_125 (by omega) h) (zf_kI (fun x9 m10 h => ?_))
          exact zf_ri dX8_copy_83 rfl h
        · replace h := h.2 g
          refine zf_ld (pc' := 43) (v := .inr (.inr (1, 63))) dX8_copy_42 rfl (fun _ _ _ => rfl) rfl rfl rfl ?_
          refine zf_gfr (pc' := 46) (b := 70) dX8_copy_43 rfl rfl (by decide) rfl rfl ?_
          refine zf_ld (pc' := 47) (v := .inl v1) dX8_copy_46 rfl (fun _ _ _ => rfl) rfl rfl rfl ?_
          refine zf_ial (pc' := 48) dX8_copy_47 rfl (⟨by decide, rfl⟩ : zf_arr 70 8).1 (⟨by decide, rfl⟩ : zf_arr 70 8).2 h.1 rfl ?_
          replace h := h.2
          refine zf_ic (v := 1) (pc' := 49) dX8_copy_48 rfl rfl ?_
          refine zf_icmp_ne (tgt := 84) (pc' := 52) dX8_copy_49 rfl rfl (fun g => ?_) (fun g => ?_)
          · replace h := h.1 g
            exact zf_lo (zq_132_84 (by omega) h) ⟨rfl, rfl, rfl, rfl, rfl, rfl, trivial⟩
          · replace h := h.2 g
            refine zf_ld (pc' := 53) (v := .inr (.inr (1, 63))) dX8_copy_52 rfl (fun _ _ _ => rfl) rfl rfl rfl ?_
            refine zf_gfr (pc' := 56) (b := 70) dX8_copy_53 rfl rfl (by decide) rfl rfl ?_
            refine zf_ld (pc' := 57) (v := .inl v2) dX8_copy_56 rfl (fun _ _ _ => rfl) rfl rfl rfl ?_
            refine zf_ial (pc' := 58) dX8_copy_57 rfl (⟨by decide, rfl⟩ : zf_arr 70 8).1 (⟨by decide, rfl⟩ : zf_arr 70 8).2 h.1 rfl ?_
            replace h := h.2
            refine zf_ic (v := 1) (pc' := 59) dX8_copy_58 rfl rfl ?_
            refine zf_icmp_ne (tgt := 84) (pc' := 62) dX8_copy_59 rfl rfl (fun g => ?_) (fun g => ?_)
            · replace h := h.1 g
              exact zf_lo (zq_132_84 (by omega) h) ⟨rfl, rfl, rfl, rfl, rfl, rfl, trivial⟩
            · replace h := h.2 g
              refine zf_ld (pc' := 63) (v := .inr (.inr (1, 63))) dX8_copy_62 rfl (fun _ _ _ => rfl) rfl rfl rfl ?_
              refine zf_gfr (pc' := 66) (b := 71) dX8_copy_63 rfl rfl (by decide) rfl rfl ?_
              refine zf_ld (pc' := 67) (v := .inl v1) dX8_copy_66 rfl (fun _ _ _ => rfl) rfl rfl rfl ?_
              refine zf_ial (pc' := 68) dX8_copy_67 rfl (⟨by decide, rfl⟩ : zf_arr 71 8).1 (⟨by decide, rfl⟩ : zf_arr 71 8).2 h.1 rfl ?_
              replace h := h.2
              refine zf_ld (pc' := 69) (v := .inr (.inr (1, 63))) dX8_copy_68 rfl (fun _ _ _ => rfl) rfl rfl rfl ?_
              refine zf_gfr (pc' := 72) (b := 71) dX8_copy_69 rfl rfl (by decide) rfl rfl ?_
              refine zf_ld (pc' := 73) (v := .inl v2) dX8_copy_72 rfl (fun _ _ _ => rfl) rfl rfl rfl ?_
              refine zf_ial (pc' := 74) dX8_copy_73 rfl (⟨by decide, rfl⟩ : zf_arr 71 8).1 (⟨by decide, rfl⟩ : zf_arr 71 8).2 h.1 rfl ?_
              replace h := h.2
              refine zf_icmp_eq (tgt := 84) (pc' := 77) dX8_copy_74 rfl rfl (fun g => ?_) (fun g => ?_)
              · replace h := h.1 g
                exact zf_lo (zq_132_84 (by omega) h) ⟨rfl, rfl, rfl, rfl, rfl, rfl, trivial⟩
              · replace h := h.2 g
                refine zf_ld (pc' := 78) (v := .inr (.inr (1, 63))) dX8_copy_77 rfl (fun _ _ _ => rfl) rfl rfl rfl ?_
                refine zf_bi (v := (-2)) (pc' := 80) dX8_copy_78 rfl rfl ?_
                refine zf_iv (k := 125) (pc' := 83) (r := []) dX8_copy_80 rfl rfl rfl rfl (by decide) rfl rfl rfl (zr_125 (by omega) h) (zf_kI (fun x29 m30 h => ?_))
                exact zf_ri dX8_copy_83 rfl h
    · replace h := h.2 g
      refine zf_ld (pc' := 17) (v := .inr (.inr (1, 63))) dX8_copy_16 rfl (fun _ _ _ => rfl) rfl rfl rfl ?_
      refine zf_ic (v := (-1)) (pc' := 18) dX8_copy_17 rfl rfl ?_
      refine zf_iv (k := 125) (pc' := 21) (r := []) dX8_copy_18 rfl rfl rfl rfl (by decide) rfl rfl rfl (zr_125 (by omega) h) (zf_kI (fun x31 m32 h => ?_))
      exact zf_ri dX8_copy_21 rfl h
def zt_133 : zx_MT := (8, yX8_element, cX8_element, 3, (some FieldType.long), 2, 0)
theorem zm_133 : zx_m 133 = zt_133 := rfl
theorem dX8_element_r0 : zdcP cX8_element 0 [(.aload_n 0, 1), (.iload_n 1, 1), (.invokevirtual 111, 3), (.ifCond .eq 42, 3), (.aload_n 0, 1), (.getfield 56, 3), (.iload_n 1, 1), (.iaload, 1), (.iconst 1, 1), (.if_icmp .ne 32, 3), (.iload_n 2, 1), (.ifCond .lt 28, 3), (.iload_n 2, 1), (.aload_n 0, 1), (.getfield 62, 3), (.iload_n 1, 1)] := zdcA_ok (by decide +kernel)
theorem dX8_element_0 : decode cX8_element 0 = .ok (.aload_n 0, 1) := dX8_element_r0.1
theorem dX8_element_1 : decode cX8_element 1 = .ok (.iload_n 1, 1) := dX8_element_r0.2.1
theorem dX8_element_2 : decode cX8_element 2 = .ok (.invokevirtual 111, 3) := dX8_element_r0.2.2.1
theorem dX8_element_5 : decode cX8_element 5 = .ok (.ifCond .eq 42, 3) := dX8_element_r0.2.2.2.1
theorem dX8_element_8 : decode cX8_element 8 = .ok (.aload_n 0, 1) := dX8_element_r0.2.2.2.2.1
theorem dX8_element_9 : decode cX8_element 9 = .ok (.getfield 56, 3) := dX8_element_r0.2.2.2.2.2.1
theorem dX8_element_12 : decode cX8_element 12 = .ok (.iload_n 1, 1) := dX8_element_r0.2.2.2.2.2.2.1
theorem dX8_element_13 : decode cX8_element 13 = .ok (.iaload, 1) := dX8_element_r0.2.2.2.2.2.2.2.1
theorem dX8_element_14 : decode cX8_element 14 = .ok (.iconst 1, 1) := dX8_element_r0.2.2.2.2.2.2.2.2.1
theorem dX8_element_15 : decode cX8_element 15 = .ok (.if_icmp .ne 32, 3) := dX8_element_r0.2.2.2.2.2.2.2.2.2.1
theorem dX8_element_18 : decode cX8_element 18 = .ok (.iload_n 2, 1) := dX8_element_r0.2.2.2.2.2.2.2.2.2.2.1
theorem dX8_element_19 : decode cX8_element 19 = .ok (.ifCond .lt 28, 3) := dX8_element_r0.2.2.2.2.2.2.2.2.2.2.2.1
theorem dX8_element_22 : decode cX8_element 22 = .ok (.iload_n 2, 1) := dX8_element_r0.2.2.2.2.2.2.2.2.2.2.2.2.1
theorem dX8_element_23 : decode cX8_element 23 = .ok (.aload_n 0, 1) := dX8_element_r0.2.2.2.2.2.2.2.2.2.2.2.2.2.1
theorem dX8_element_24 : decode cX8_element 24 = .ok (.getfield 62, 3) := dX8_element_r0.2.2.2.2.2.2.2.2.2.2.2.2.2.2.1
theorem dX8_element_27 : decode cX8_element 27 = .ok (.iload_n 1, 1) := dX8_element_r0.2.2.2.2.2.2.2.2.2.2.2.2.2.2.2.1
theorem dX8_element_r28 : zdcP cX8_element 28 [(.iaload, 1), (.if_icmp .ge 18, 3), (.aload_n 0, 1), (.getfield 68, 3), (.sipush 160, 3), (.iload_n 1, 1), (.imul, 1), (.iload_n 2, 1), (.iadd, 1), (.laload, 1), (.goto 4, 3), (.lconst 0, 1), (.lreturn, 1)] := zdcA_ok (by decide +kernel)
theorem dX8_element_28 : decode cX8_element 28 = .ok (.iaload, 1) := dX8_element_r28.1
theorem dX8_element_29 : decode cX8_element 29 = .ok (.if_icmp .ge 18, 3) := dX8_element_r28.2.1
theorem dX8_element_32 : decode cX8_element 32 = .ok (.aload_n 0, 1) := dX8_element_r28.2.2.1
theorem dX8_element_33 : decode cX8_element 33 = .ok (.getfield 68, 3) := dX8_element_r28.2.2.2.1
theorem dX8_element_36 : decode cX8_element 36 = .ok (.sipush 160, 3) := dX8_element_r28.2.2.2.2.1
theorem dX8_element_39 : decode cX8_element 39 = .ok (.iload_n 1, 1) := dX8_element_r28.2.2.2.2.2.1
theorem dX8_element_40 : decode cX8_element 40 = .ok (.imul, 1) := dX8_element_r28.2.2.2.2.2.2.1
theorem dX8_element_41 : decode cX8_element 41 = .ok (.iload_n 2, 1) := dX8_element_r28.2.2.2.2.2.2.2.1
theorem dX8_element_42 : decode cX8_element 42 = .ok (.iadd, 1) := dX8_element_r28.2.2.2.2.2.2.2.2.1
theorem dX8_element_43 : decode cX8_element 43 = .ok (.laload, 1) := dX8_element_r28.2.2.2.2.2.2.2.2.2.1
theorem dX8_element_44 : decode cX8_element 44 = .ok (.goto 4, 3) := dX8_element_r28.2.2.2.2.2.2.2.2.2.2.1
theorem dX8_element_47 : decode cX8_element 47 = .ok (.lconst 0, 1) := dX8_element_r28.2.2.2.2.2.2.2.2.2.2.2.1
theorem dX8_element_48 : decode cX8_element 48 = .ok (.lreturn, 1) := dX8_element_r28.2.2.2.2.2.2.2.2.2.2.2.2.1
def wp_133 (v1 : Int32) (v2 : Int32) (m : zf_Me) (Q : Int64 → zf_Me → Prop) : Prop := wp_127 v1 m (fun b1 m2 => ((b1 = false → Q 0 m2) ∧ (b1 = true → ((0 ≤ (Int32.toInt v1) ∧ (Int32.toInt v1) < (8 : Int)) ∧ ((¬ ((m2.1 70 (Int32.toInt v1).toNat)).toInt = 1 → Q 0 m2) ∧ (((m2.1 70 (Int32.toInt v1).toNat)).toInt = 1 → ((v2.toInt < 0 → Q 0 m2) ∧ (v2.toInt ≥ 0 → ((0 ≤ (Int32.toInt v1) ∧ (Int32.toInt v1) < (8 : Int)) ∧ ((v2.toInt ≥ ((m2.1 72 (Int32.toInt v1).toNat)).toInt → Q 0 m2) ∧ (v2.toInt < ((m2.1 72 (Int32.toInt v1).toNat)).toInt → ((0 ≤ (Int32.toInt ((160 * v1) + v2)) ∧ (Int32.toInt ((160 * v1) + v2)) < (1280 : Int)) ∧ Q (m2.2 74 (Int32.toInt ((160 * v1) + v2)).toNat) m2))))))))))))
theorem zr_133 {d : Nat} (hd : 1 ≤ d) {v1 : Int32} {v2 : Int32} {Q : Int64 → zf_Me → Prop} {m : zf_Me} (h : wp_133 v1 v2 m Q) : zf_M d 133 [.inr (.inr (1, 63)), .inl v1, .inl v2] m (zf_J Q) := by
  obtain ⟨e, rfl⟩ : ∃ z, d = z + 1 := ⟨d - 1, by omega⟩
  unfold wp_133 at h
  refine zf_M_of (Nat.le_of_ble_eq_true rfl) zm_133 (L := [some (.inr (.inr (1, 63))), some (.inl v1), some (.inl v2)]) rfl ?_
  refine zf_ld (pc' := 1) (v := .inr (.inr (1, 63))) dX8_element_0 rfl (fun _ _ _ => rfl) rfl rfl rfl ?_
  refine zf_ld (pc' := 2) (v := .inl v1) dX8_element_1 rfl (fun _ _ _ => rfl) rfl rfl rfl ?_
  refine zf_iv (k := 127) (pc' := 5) (r := []) dX8_element_2 rfl rfl rfl rfl (by decide) rfl rfl rfl (zr_127 (by omega) h) (zf_kB (fun b1 m2 h => ?_))
  refine zf_ib_eq (tgt := 47) (pc' := 8) dX8_element_5 rfl rfl (fun g => ?_) (fun g => ?_)
  · replace h := h.1 g
    refine zf_in (pc' := 48) (S' := [.inr (.inl 0)]) dX8_element_47 rfl (fun _ _ _ => rfl) ?_
    exact zf_rl dX8_element_48 rfl h
  · replace h := h.2 g
    refine zf_ld (pc' := 9) (v := .inr (.inr (1, 63))) dX8_element_8 rfl (fun _ _ _ => rfl) rfl rfl rfl ?_
    refine zf_gfr (pc' := 12) (b := 70) dX8_element_9 rfl rfl (by decide) rfl rfl ?_
    refine zf_ld (pc' := 13) (v := .inl v1) dX8_element_12 rfl (fun _ _ _ => rfl) rfl rfl rfl ?_
    refine zf_ial (pc' := 14) dX8_element_13 rfl (⟨by decide, rfl⟩ : zf_arr 70 8).1 (⟨by decide, rfl⟩ : zf_arr 70 8).2 h.1 rfl ?_
    replace h := h.2
    refine zf_ic (v := 1) (pc' := 15) dX8_element_14 rfl rfl ?_
    refine zf_icmp_ne (tgt := 47) (pc' := 18) dX8_element_15 rfl rfl (fun g => ?_) (fun g => ?_)
    · replace h := h.1 g
      refine zf_in (pc' := 48) (S' := [.inr (.inl 0)]) dX8_element_47 rfl (fun _ _ _ => rfl) ?_
      exact zf_rl dX8_element_48 rfl h
    · replace h := h.2 g
      refine zf_ld (pc' := 19) (v := .inl v2) dX8_element_18 rfl (fun _ _ _ => rfl) rfl rfl rfl ?_
      refine zf_if_lt (tgt := 47) (pc' := 22) dX8_element_19 rfl rfl (fun g => ?_) (fun g => ?_)
      · replace h := h.1 g
        refine zf_in (pc' := 48) (S' := [.inr (.inl 0)]) dX8_element_47 rfl (fun _ _ _ => rfl) ?_
        exact zf_rl dX8_element_48 rfl h
      · replace h := h.2 g
        refine zf_ld (pc' := 23) (v := .inl v2) dX8_element_22 rfl (fun _ _ _ => rfl) rfl rfl rfl ?_
        refine zf_ld (pc' := 24) (v := .inr (.inr (1, 63))) dX8_element_23 rfl (fun _ _ _ => rfl) rfl rfl rfl ?_
        refine zf_gfr (pc' := 27) (b := 72) dX8_element_24 rfl rfl (by decide) rfl rfl ?_
        refine zf_ld (pc' := 28) (v := .inl v1) dX8_element_27 rfl (fun _ _ _ => rfl) rfl rfl rfl ?_
        refine zf_ial (pc' := 29) dX8_element_28 rfl (⟨by decide, rfl⟩ : zf_arr 72 8).1 (⟨by decide, rfl⟩ : zf_arr 72 8).2 h.1 rfl ?_
        replace h := h.2
        refine zf_icmp_ge (tgt := 47) (pc' := 32) dX8_element_29 rfl rfl (fun g => ?_) (fun g => ?_)
        · replace h := h.1 g
          refine zf_in (pc' := 48) (S' := [.inr (.inl 0)]) dX8_element_47 rfl (fun _ _ _ => rfl) ?_
          exact zf_rl dX8_element_48 rfl h
        · replace h := h.2 g
          refine zf_ld (pc' := 33) (v := .inr (.inr (1, 63))) dX8_element_32 rfl (fun _ _ _ => rfl) rfl rfl rfl ?_
          refine zf_gfr (pc' := 36) (b := 74) dX8_element_33 rfl rfl (by decide) rfl rfl ?_
          refine zf_si (v := 160) (pc' := 39) dX8_element_36 rfl rfl ?_
          refine zf_ld (pc' := 40) (v := .inl v1) dX8_element_39 rfl (fun _ _ _ => rfl) rfl rfl rfl ?_
          refine zf_in (pc' := 41) (S' := [.inl (160 * v1), .inr (.inr (1, 74))]) dX8_element_40 rfl (fun _ _ _ => rfl) ?_
          refine zf_ld (pc' := 42) (v := .inl v2) dX8_element_41 rfl (fun _ _ _ => rfl) rfl rfl rfl ?_
          refine zf_in (pc' := 43) (S' := [.inl ((160 * v1) + v2), .inr (.inr (1, 74))]) dX8_element_42 rfl (fun _ _ _ => rfl) ?_
          refine zf_lal (pc' := 44) dX8_element_43 rfl (⟨by decide, rfl⟩ : zf_larr 74 1280).1 (⟨by decide, rfl⟩ : zf_larr 74 1280).2 h.1 rfl ?_
          replace h := h.2
          refine zf_goto (tgt := 48) dX8_element_44 rfl ?_
          exact zf_rl dX8_element_48 rfl h
def zt_134 : zx_MT := (8, yX8_show, cX8_show, 3, (some FieldType.int), 2, 0)
theorem zm_134 : zx_m 134 = zt_134 := rfl
theorem dX8_show_r0 : zdcP cX8_show 0 [(.aload_n 0, 1), (.iload_n 1, 1), (.invokevirtual 111, 3), (.ifCond .eq 16, 3), (.iload_n 2, 1), (.iconst (-1), 1), (.if_icmp .eq 17, 3), (.aload_n 0, 1), (.iload_n 2, 1), (.invokevirtual 119, 3), (.ifCond .ne 9, 3), (.aload_n 0, 1), (.iconst (-1), 1), (.invokevirtual 115, 3), (.ireturn, 1), (.aload_n 0, 1)] := zdcA_ok (by decide +kernel)
theorem dX8_show_0 : decode cX8_show 0 = .ok (.aload_n 0, 1) := dX8_show_r0.1
theorem dX8_show_1 : decode cX8_show 1 = .ok (.iload_n 1, 1) := dX8_show_r0.2.1
theorem dX8_show_2 : decode cX8_show 2 = .ok (.invokevirtual 111, 3) := dX8_show_r0.2.2.1
theorem dX8_show_5 : decode cX8_show 5 = .ok (.ifCond .eq 16, 3) := dX8_show_r0.2.2.2.1
theorem dX8_show_8 : decode cX8_show 8 = .ok (.iload_n 2, 1) := dX8_show_r0.2.2.2.2.1
theorem dX8_show_9 : decode cX8_show 9 = .ok (.iconst (-1), 1) := dX8_show_r0.2.2.2.2.2.1
theorem dX8_show_10 : decode cX8_show 10 = .ok (.if_icmp .eq 17, 3) := dX8_show_r0.2.2.2.2.2.2.1
theorem dX8_show_13 : decode cX8_show 13 = .ok (.aload_n 0, 1) := dX8_show_r0.2.2.2.2.2.2.2.1
theorem dX8_show_14 : decode cX8_show 14 = .ok (.iload_n 2, 1) := dX8_show_r0.2.2.2.2.2.2.2.2.1
theorem dX8_show_15 : decode cX8_show 15 = .ok (.invokevirtual 119, 3) := dX8_show_r0.2.2.2.2.2.2.2.2.2.1
theorem dX8_show_18 : decode cX8_show 18 = .ok (.ifCond .ne 9, 3) := dX8_show_r0.2.2.2.2.2.2.2.2.2.2.1
theorem dX8_show_21 : decode cX8_show 21 = .ok (.aload_n 0, 1) := dX8_show_r0.2.2.2.2.2.2.2.2.2.2.2.1
theorem dX8_show_22 : decode cX8_show 22 = .ok (.iconst (-1), 1) := dX8_show_r0.2.2.2.2.2.2.2.2.2.2.2.2.1
theorem dX8_show_23 : decode cX8_show 23 = .ok (.invokevirtual 115, 3) := dX8_show_r0.2.2.2.2.2.2.2.2.2.2.2.2.2.1
theorem dX8_show_26 : decode cX8_show 26 = .ok (.ireturn, 1) := dX8_show_r0.2.2.2.2.2.2.2.2.2.2.2.2.2.2.1
theorem dX8_show_27 : decode cX8_show 27 = .ok (.aload_n 0, 1) := dX8_show_r0.2.2.2.2.2.2.2.2.2.2.2.2.2.2.2.1
theorem dX8_show_r28 : zdcP cX8_show 28 [(.getfield 56, 3), (.iload_n 1, 1), (.iload_n 2, 1), (.iconst (-1), 1), (.if_icmp .ne 7, 3), (.iconst 0, 1), (.goto 4, 3), (.iconst 2, 1), (.iastore, 1), (.aload_n 0, 1), (.getfield 65, 3), (.iload_n 1, 1), (.iload_n 2, 1), (.iastore, 1), (.iload_n 2, 1), (.iconst (-1), 1)] := zdcA_ok (by decide +kernel)
theorem dX8_show_28 : decode cX8_show 28 = .ok (.getfield 56, 3) := dX8_show_r28.1
theorem dX8_show_31 : decode cX8_show 31 = .ok (.iload_n 1, 1) := dX8_show_r28.2.1
theorem dX8_show_32 : decode cX8_show 32 = .ok (.iload_n 2, 1) := dX8_show_r28.2.2.1
theorem dX8_show_33 : decode cX8_show 33 = .ok (.iconst (-1), 1) := dX8_show_r28.2.2.2.1
theorem dX8_show_34 : decode cX8_show 34 = .ok (.if_icmp .ne 7, 3) := dX8_show_r28.2.2.2.2.1
theorem dX8_show_37 : decode cX8_show 37 = .ok (.iconst 0, 1) := dX8_show_r28.2.2.2.2.2.1
theorem dX8_show_38 : decode cX8_show 38 = .ok (.goto 4, 3) := dX8_show_r28.2.2.2.2.2.2.1
theorem dX8_show_41 : decode cX8_show 41 = .ok (.iconst 2, 1) := dX8_show_r28.2.2.2.2.2.2.2.1
theorem dX8_show_42 : decode cX8_show 42 = .ok (.iastore, 1) := dX8_show_r28.2.2.2.2.2.2.2.2.1
theorem dX8_show_43 : decode cX8_show 43 = .ok (.aload_n 0, 1) := dX8_show_r28.2.2.2.2.2.2.2.2.2.1
theorem dX8_show_44 : decode cX8_show 44 = .ok (.getfield 65, 3) := dX8_show_r28.2.2.2.2.2.2.2.2.2.2.1
theorem dX8_show_47 : decode cX8_show 47 = .ok (.iload_n 1, 1) := dX8_show_r28.2.2.2.2.2.2.2.2.2.2.2.1
theorem dX8_show_48 : decode cX8_show 48 = .ok (.iload_n 2, 1) := dX8_show_r28.2.2.2.2.2.2.2.2.2.2.2.2.1
theorem dX8_show_49 : decode cX8_show 49 = .ok (.iastore, 1) := dX8_show_r28.2.2.2.2.2.2.2.2.2.2.2.2.2.1
theorem dX8_show_50 : decode cX8_show 50 = .ok (.iload_n 2, 1) := dX8_show_r28.2.2.2.2.2.2.2.2.2.2.2.2.2.2.1
theorem dX8_show_51 : decode cX8_show 51 = .ok (.iconst (-1), 1) := dX8_show_r28.2.2.2.2.2.2.2.2.2.2.2.2.2.2.2.1
theorem dX8_show_r52 : zdcP cX8_show 52 [(.if_icmp .ne 7, 3), (.iconst 0, 1), (.goto 4, 3), (.iconst 1, 1), (.ireturn, 1)] := zdcA_ok (by decide +kernel)
theorem dX8_show_52 : decode cX8_show 52 = .ok (.if_icmp .ne 7, 3) := dX8_show_r52.1
theorem dX8_show_55 : decode cX8_show 55 = .ok (.iconst 0, 1) := dX8_show_r52.2.1
theorem dX8_show_56 : decode cX8_show 56 = .ok (.goto 4, 3) := dX8_show_r52.2.2.1
theorem dX8_show_59 : decode cX8_show 59 = .ok (.iconst 1, 1) := dX8_show_r52.2.2.2.1
theorem dX8_show_60 : decode cX8_show 60 = .ok (.ireturn, 1) := dX8_show_r52.2.2.2.2.1
def wq_134_42 (v1 : Int32) (v2 : Int32) (u0 : Int32) (u1 : Int32) (m : zf_Me) (Q : Int32 → zf_Me → Prop) : Prop := ((0 ≤ (Int32.toInt u1) ∧ (Int32.toInt u1) < (8 : Int)) ∧ ∀ m5, m5 = zf_u m 70 (Int32.toInt u1).toNat u0 → ((0 ≤ (Int32.toInt v1) ∧ (Int32.toInt v1) < (8 : Int)) ∧ ∀ m7, m7 = zf_u m5 73 (Int32.toInt v1).toNat v2 → ((¬ v2.toInt = (-1) → Q 1 m7) ∧ (v2.toInt = (-1) → Q 0 m7))))
theorem zq_134_42 {d : Nat} (hd : 1 ≤ d) {v1 : Int32} {v2 : Int32} {Q : Int32 → zf_Me → Prop} {u0 : Int32} {u1 : Int32} {m : zf_Me} (h : wq_134_42 v1 v2 u0 u1 m Q) : zf_W none 0 0 d zt_134 42 [some (.inr (.inr (1, 63))), some (.inl v1), some (.inl v2)] [.inl u0, .inl u1, .inr (.inr (1, 70))] m (zf_I Q) := by
  unfold wq_134_42 at h
  refine zf_ias (pc' := 43) dX8_show_42 rfl (⟨by decide, rfl⟩ : zf_arr 70 8).1 (⟨by decide, rfl⟩ : zf_arr 70 8).2 h.1 rfl (fun m5 e6 => ?_)
  replace h := h.2 m5 e6
  refine zf_ld (pc' := 44) (v := .inr (.inr (1, 63))) dX8_show_43 rfl (fun _ _ _ => rfl) rfl rfl rfl ?_
  refine zf_gfr (pc' := 47) (b := 73) dX8_show_44 rfl rfl (by decide) rfl rfl ?_
  refine zf_ld (pc' := 48) (v := .inl v1) dX8_show_47 rfl (fun _ _ _ => rfl) rfl rfl rfl ?_
  refine zf_ld (pc' := 49) (v := .inl v2) dX8_show_48 rfl (fun _ _ _ => rfl) rfl rfl rfl ?_
  refine zf_ias (pc' := 50) dX8_show_49 rfl (⟨by decide, rfl⟩ : zf_arr 73 8).1 (⟨by decide, rfl⟩ : zf_arr 73 8).2 h.1 rfl (fun m7 e8 => ?_)
  replace h := h.2 m7 e8
  refine zf_ld (pc' := 51) (v := .inl v2) dX8_show_50 rfl (fun _ _ _ => rfl) rfl rfl rfl ?_
  refine zf_ic (v := (-1)) (pc' := 52) dX8_show_51 rfl rfl ?_
  refine zf_icmp_ne (tgt := 59) (pc' := 55) dX8_show_52 rfl rfl (fun g => ?_) (fun g => ?_)
  · replace h := h.1 g
    refine zf_ic (v := 1) (pc' := 60) dX8_show_59 rfl rfl ?_
    exact zf_ri dX8_show_60 rfl h
  · replace h := h.2 g
    refine zf_ic (v := 0) (pc' := 56) dX8_show_55 rfl rfl ?_
    refine zf_goto (tgt := 60) dX8_show_56 rfl ?_
    exact zf_ri dX8_show_60 rfl h
def wq_134_27 (v1 : Int32) (v2 : Int32) (m : zf_Me) (Q : Int32 → zf_Me → Prop) : Prop := ((¬ v2.toInt = (-1) → wq_134_42 v1 v2 2 v1 m Q) ∧ (v2.toInt = (-1) → wq_134_42 v1 v2 0 v1 m Q))
theorem zq_134_27 {d : Nat} (hd : 1 ≤ d) {v1 : Int32} {v2 : Int32} {Q : Int32 → zf_Me → Prop} {m : zf_Me} (h : wq_134_27 v1 v2 m Q) : zf_W none 0 0 d zt_134 27 [some (.inr (.inr (1, 63))), some (.inl v1), some (.inl v2)] [] m (zf_I Q) := by
  unfold wq_134_27 at h
  refine zf_ld (pc' := 28) (v := .inr (.inr (1, 63))) dX8_show_27 rfl (fun _ _ _ => rfl) rfl rfl rfl ?_
  refine zf_gfr (pc' := 31) (b := 70) dX8_show_28 rfl rfl (by decide) rfl rfl ?_
  refine zf_ld (pc' := 32) (v := .inl v1) dX8_show_31 rfl (fun _ _ _ => rfl) rfl rfl rfl ?_
  refine zf_ld (pc' := 33) (v := .inl v2) dX8_show_32 rfl (fun _ _ _ => rfl) rfl rfl rfl ?_
  refine zf_ic (v := (-1)) (pc' := 34) dX8_show_33 rfl rfl ?_
  refine zf_icmp_ne (tgt := 41) (pc' := 37) dX8_show_34 rfl rfl (fun g => ?_) (fun g => ?_)
  · replace h := h.1 g
    refine zf_ic (v := 2) (pc' := 42) dX8_show_41 rfl rfl ?_
    exact zf_lo (zq_134_42 (by omega) h) ⟨rfl, rfl, rfl, trivial⟩
  · replace h := h.2 g
    refine zf_ic (v := 0) (pc' := 38) dX8_show_37 rfl rfl ?_
    refine zf_goto (tgt := 42) dX8_show_38 rfl ?_
    exact zf_lo (zq_134_42 (by omega) h) ⟨rfl, rfl, rfl, trivial⟩
def wp_134 (v1 : Int32) (v2 : Int32) (m : zf_Me) (Q : Int32 → zf_Me → Prop) : Prop := wp_127 v1 m (fun b1 m2 => ((b1 = false → wp_125 (-1) m2 (fun x3 m4 => Q x3 m4)) ∧ (b1 = true → ((v2.toInt = (-1) → wq_134_27 v1 v2 m2 Q) ∧ (¬ v2.toInt = (-1) → wp_128 v2 m2 (fun b9 m10 => ((b9 = true → wq_134_27 v1 v2 m10 Q) ∧ (b9 = false → wp_125 (-1) m10 (fun x11 m12 => Q x11 m12)))))))))
theorem zr_134 {d : Nat} (hd : 1 ≤ d) {v1 : Int32} {v2 : Int32} {Q : Int32 → zf_Me → Prop} {m : zf_Me} (h : wp_134 v1 v2 m Q) : zf_M d 134 [.inr (.inr (1, 63)), .inl v1, .inl v2] m (zf_I Q) := by
  obtain ⟨e, rfl⟩ : ∃ z, d = z + 1 := ⟨d - 1, by omega⟩
  unfold wp_134 at h
  refine zf_M_of (Nat.le_of_ble_eq_true rfl) zm_134 (L := [some (.inr (.inr (1, 63))), some (.inl v1), some (.inl v2)]) rfl ?_
  refine zf_ld (pc' := 1) (v := .inr (.inr (1, 63))) dX8_show_0 rfl (fun _ _ _ => rfl) rfl rfl rfl ?_
  refine zf_ld (pc' := 2) (v := .inl v1) dX8_show_1 rfl (fun _ _ _ => rfl) rfl rfl rfl ?_
  refine zf_iv (k := 127) (pc' := 5) (r := []) dX8_show_2 rfl rfl rfl rfl (by decide) rfl rfl rfl (zr_127 (by omega) h) (zf_kB (fun b1 m2 h => ?_))
  refine zf_ib_eq (tgt := 21) (pc' := 8) dX8_show_5 rfl rfl (fun g => ?_) (fun g => ?_)
  · replace h := h.1 g
    refine zf_ld (pc' := 22) (v := .inr (.inr (1, 63))) dX8_show_21 rfl (fun _ _ _ => rfl) rfl rfl rfl ?_
    refine zf_ic (v := (-1)) (pc' := 23) dX8_show_22 rfl rfl ?_
    refine zf_iv (k := 125) (pc' := 26) (r := []) dX8_show_23 rfl rfl rfl rfl (by decide) rfl rfl rfl (zr_125 (by omega) h) (zf_kI (fun x3 m4 h => ?_))
    exact zf_ri dX8_show_26 rfl h
  · replace h := h.2 g
    refine zf_ld (pc' := 9) (v := .inl v2) dX8_show_8 rfl (fun _ _ _ => rfl) rfl rfl rfl ?_
    refine zf_ic (v := (-1)) (pc' := 10) dX8_show_9 rfl rfl ?_
    refine zf_icmp_eq (tgt := 27) (pc' := 13) dX8_show_10 rfl rfl (fun g => ?_) (fun g => ?_)
    · replace h := h.1 g
      exact zf_lo (zq_134_27 (by omega) h) ⟨rfl, rfl, rfl, trivial⟩
    · replace h := h.2 g
      refine zf_ld (pc' := 14) (v := .inr (.inr (1, 63))) dX8_show_13 rfl (fun _ _ _ => rfl) rfl rfl rfl ?_
      refine zf_ld (pc' := 15) (v := .inl v2) dX8_show_14 rfl (fun _ _ _ => rfl) rfl rfl rfl ?_
      refine zf_iv (k := 128) (pc' := 18) (r := []) dX8_show_15 rfl rfl rfl rfl (by decide) rfl rfl rfl (zr_128 (by omega) h) (zf_kB (fun b9 m10 h => ?_))
      refine zf_ib_ne (tgt := 27) (pc' := 21) dX8_show_18 rfl rfl (fun g => ?_) (fun g => ?_)
      · replace h := h.1 g
        exact zf_lo (zq_134_27 (by omega) h) ⟨rfl, rfl, rfl, trivial⟩
      · replace h := h.2 g
        refine zf_ld (pc' := 22) (v := .inr (.inr (1, 63))) dX8_show_21 rfl (fun _ _ _ => rfl) rfl rfl rfl ?_
        refine zf_ic (v := (-1)) (pc' := 23) dX8_show_22 rfl rfl ?_
        refine zf_iv (k := 125) (pc' := 26) (r := []) dX8_show_23 rfl rfl rfl rfl (by decide) rfl rfl rfl (zr_125 (by omega) h) (zf_kI (fun x11 m12 h => ?_))
        exact zf_ri dX8_show_26 rfl h
def zt_135 : zx_MT := (8, yX8_holds, cX8_holds, 2, (some FieldType.int), 1, 0)
theorem zm_135 : zx_m 135 = zt_135 := rfl
theorem dX8_holds_r0 : zdcP cX8_holds 0 [(.aload_n 0, 1), (.iload_n 1, 1), (.invokevirtual 111, 3), (.ifCond .eq 12, 3), (.aload_n 0, 1), (.getfield 56, 3), (.iload_n 1, 1), (.iaload, 1), (.ifCond .ne 5, 3), (.iconst (-1), 1), (.ireturn, 1), (.aload_n 0, 1), (.getfield 56, 3), (.iload_n 1, 1), (.iaload, 1), (.iconst 1, 1)] := zdcA_ok (by decide +kernel)
theorem dX8_holds_0 : decode cX8_holds 0 = .ok (.aload_n 0, 1) := dX8_holds_r0.1
theorem dX8_holds_1 : decode cX8_holds 1 = .ok (.iload_n 1, 1) := dX8_holds_r0.2.1
theorem dX8_holds_2 : decode cX8_holds 2 = .ok (.invokevirtual 111, 3) := dX8_holds_r0.2.2.1
theorem dX8_holds_5 : decode cX8_holds 5 = .ok (.ifCond .eq 12, 3) := dX8_holds_r0.2.2.2.1
theorem dX8_holds_8 : decode cX8_holds 8 = .ok (.aload_n 0, 1) := dX8_holds_r0.2.2.2.2.1
theorem dX8_holds_9 : decode cX8_holds 9 = .ok (.getfield 56, 3) := dX8_holds_r0.2.2.2.2.2.1
theorem dX8_holds_12 : decode cX8_holds 12 = .ok (.iload_n 1, 1) := dX8_holds_r0.2.2.2.2.2.2.1
theorem dX8_holds_13 : decode cX8_holds 13 = .ok (.iaload, 1) := dX8_holds_r0.2.2.2.2.2.2.2.1
theorem dX8_holds_14 : decode cX8_holds 14 = .ok (.ifCond .ne 5, 3) := dX8_holds_r0.2.2.2.2.2.2.2.2.1
theorem dX8_holds_17 : decode cX8_holds 17 = .ok (.iconst (-1), 1) := dX8_holds_r0.2.2.2.2.2.2.2.2.2.1
theorem dX8_holds_18 : decode cX8_holds 18 = .ok (.ireturn, 1) := dX8_holds_r0.2.2.2.2.2.2.2.2.2.2.1
theorem dX8_holds_19 : decode cX8_holds 19 = .ok (.aload_n 0, 1) := dX8_holds_r0.2.2.2.2.2.2.2.2.2.2.2.1
theorem dX8_holds_20 : decode cX8_holds 20 = .ok (.getfield 56, 3) := dX8_holds_r0.2.2.2.2.2.2.2.2.2.2.2.2.1
theorem dX8_holds_23 : decode cX8_holds 23 = .ok (.iload_n 1, 1) := dX8_holds_r0.2.2.2.2.2.2.2.2.2.2.2.2.2.1
theorem dX8_holds_24 : decode cX8_holds 24 = .ok (.iaload, 1) := dX8_holds_r0.2.2.2.2.2.2.2.2.2.2.2.2.2.2.1
theorem dX8_holds_25 : decode cX8_holds 25 = .ok (.iconst 1, 1) := dX8_holds_r0.2.2.2.2.2.2.2.2.2.2.2.2.2.2.2.1
theorem dX8_holds_r26 : zdcP cX8_holds 26 [(.if_icmp .ne 15, 3), (.bipush 100, 2), (.aload_n 0, 1), (.getfield 59, 3), (.iload_n 1, 1), (.iaload, 1), (.iadd, 1), (.goto 9, 3), (.aload_n 0, 1), (.getfield 65, 3), (.iload_n 1, 1), (.iaload, 1), (.ireturn, 1)] := zdcA_ok (by decide +kernel)
theorem dX8_holds_26 : decode cX8_holds 26 = .ok (.if_icmp .ne 15, 3) := dX8_holds_r26.1
theorem dX8_holds_29 : decode cX8_holds 29 = .ok (.bipush 100, 2) := dX8_holds_r26.2.1
theorem dX8_holds_31 : decode cX8_holds 31 = .ok (.aload_n 0, 1) := dX8_holds_r26.2.2.1
theorem dX8_holds_32 : decode cX8_holds 32 = .ok (.getfield 59, 3) := dX8_holds_r26.2.2.2.1
theorem dX8_holds_35 : decode cX8_holds 35 = .ok (.iload_n 1, 1) := dX8_holds_r26.2.2.2.2.1
theorem dX8_holds_36 : decode cX8_holds 36 = .ok (.iaload, 1) := dX8_holds_r26.2.2.2.2.2.1
theorem dX8_holds_37 : decode cX8_holds 37 = .ok (.iadd, 1) := dX8_holds_r26.2.2.2.2.2.2.1
theorem dX8_holds_38 : decode cX8_holds 38 = .ok (.goto 9, 3) := dX8_holds_r26.2.2.2.2.2.2.2.1
theorem dX8_holds_41 : decode cX8_holds 41 = .ok (.aload_n 0, 1) := dX8_holds_r26.2.2.2.2.2.2.2.2.1
theorem dX8_holds_42 : decode cX8_holds 42 = .ok (.getfield 65, 3) := dX8_holds_r26.2.2.2.2.2.2.2.2.2.1
theorem dX8_holds_45 : decode cX8_holds 45 = .ok (.iload_n 1, 1) := dX8_holds_r26.2.2.2.2.2.2.2.2.2.2.1
theorem dX8_holds_46 : decode cX8_holds 46 = .ok (.iaload, 1) := dX8_holds_r26.2.2.2.2.2.2.2.2.2.2.2.1
theorem dX8_holds_47 : decode cX8_holds 47 = .ok (.ireturn, 1) := dX8_holds_r26.2.2.2.2.2.2.2.2.2.2.2.2.1
def wp_135 (v1 : Int32) (m : zf_Me) (Q : Int32 → zf_Me → Prop) : Prop := wp_127 v1 m (fun b1 m2 => ((b1 = false → Q (-1) m2) ∧ (b1 = true → ((0 ≤ (Int32.toInt v1) ∧ (Int32.toInt v1) < (8 : Int)) ∧ ((¬ ((m2.1 70 (Int32.toInt v1).toNat)).toInt = 0 → ((0 ≤ (Int32.toInt v1) ∧ (Int32.toInt v1) < (8 : Int)) ∧ ((¬ ((m2.1 70 (Int32.toInt v1).toNat)).toInt = 1 → ((0 ≤ (Int32.toInt v1) ∧ (Int32.toInt v1) < (8 : Int)) ∧ Q (m2.1 73 (Int32.toInt v1).toNat) m2)) ∧ (((m2.1 70 (Int32.toInt v1).toNat)).toInt = 1 → ((0 ≤ (Int32.toInt v1) ∧ (Int32.toInt v1) < (8 : Int)) ∧ Q (100 + (m2.1 71 (Int32.toInt v1).toNat)) m2))))) ∧ (((m2.1 70 (Int32.toInt v1).toNat)).toInt = 0 → Q (-1) m2))))))
theorem zr_135 {d : Nat} (hd : 1 ≤ d) {v1 : Int32} {Q : Int32 → zf_Me → Prop} {m : zf_Me} (h : wp_135 v1 m Q) : zf_M d 135 [.inr (.inr (1, 63)), .inl v1] m (zf_I Q) := by
  obtain ⟨e, rfl⟩ : ∃ z, d = z + 1 := ⟨d - 1, by omega⟩
  unfold wp_135 at h
  refine zf_M_of (Nat.le_of_ble_eq_true rfl) zm_135 (L := [some (.inr (.inr (1, 63))), some (.inl v1)]) rfl ?_
  refine zf_ld (pc' := 1) (v := .inr (.inr (1, 63))) dX8_holds_0 rfl (fun _ _ _ => rfl) rfl rfl rfl ?_
  refine zf_ld (pc' := 2) (v := .inl v1) dX8_holds_1 rfl (fun _ _ _ => rfl) rfl rfl rfl ?_
  refine zf_iv (k := 127) (pc' := 5) (r := []) dX8_holds_2 rfl rfl rfl rfl (by decide) rfl rfl rfl (zr_127 (by omega) h) (zf_kB (fun b1 m2 h => ?_))
  refine zf_ib_eq (tgt := 17) (pc' := 8) dX8_holds_5 rfl rfl (fun g => ?_) (fun g => ?_)
  · replace h := h.1 g
    refine zf_ic (v := (-1)) (pc' := 18) dX8_holds_17 rfl rfl ?_
    exact zf_ri dX8_holds_18 rfl h
  · replace h := h.2 g
    refine zf_ld (pc' := 9) (v := .inr (.inr (1, 63))) dX8_holds_8 rfl (fun _ _ _ => rfl) rfl rfl rfl ?_
    refine zf_gfr (pc' := 12) (b := 70) dX8_holds_9 rfl rfl (by decide) rfl rfl ?_
    refine zf_ld (pc' := 13) (v := .inl v1) dX8_holds_12 rfl (fun _ _ _ => rfl) rfl rfl rfl ?_
    refine zf_ial (pc' := 14) dX8_holds_13 rfl (⟨by decide, rfl⟩ : zf_arr 70 8).1 (⟨by decide, rfl⟩ : zf_arr 70 8).2 h.1 rfl ?_
    replace h := h.2
    refine zf_if_ne (tgt := 19) (pc' := 17) dX8_holds_14 rfl rfl (fun g => ?_) (fun g => ?_)
    · replace h := h.1 g
      refine zf_ld (pc' := 20) (v := .inr (.inr (1, 63))) dX8_holds_19 rfl (fun _ _ _ => rfl) rfl rfl rfl ?_
      refine zf_gfr (pc' := 23) (b := 70) dX8_holds_20 rfl rfl (by decide) rfl rfl ?_
      refine zf_ld (pc' := 24) (v := .inl v1) dX8_holds_23 rfl (fun _ _ _ => rfl) rfl rfl rfl ?_
      refine zf_ial (pc' := 25) dX8_holds_24 rfl (⟨by decide, rfl⟩ : zf_arr 70 8).1 (⟨by decide, rfl⟩ : zf_arr 70 8).2 h.1 rfl ?_
      replace h := h.2
      refine zf_ic (v := 1) (pc' := 26) dX8_holds_25 rfl rfl ?_
      refine zf_icmp_ne (tgt := 41) (pc' := 29) dX8_holds_26 rfl rfl (fun g => ?_) (fun g => ?_)
      · replace h := h.1 g
        refine zf_ld (pc' := 42) (v := .inr (.inr (1, 63))) dX8_holds_41 rfl (fun _ _ _ => rfl) rfl rfl rfl ?_
        refine zf_gfr (pc' := 45) (b := 73) dX8_holds_42 rfl rfl (by decide) rfl rfl ?_
        refine zf_ld (pc' := 46) (v := .inl v1) dX8_holds_45 rfl (fun _ _ _ => rfl) rfl rfl rfl ?_
        refine zf_ial (pc' := 47) dX8_holds_46 rfl (⟨by decide, rfl⟩ : zf_arr 73 8).1 (⟨by decide, rfl⟩ : zf_arr 73 8).2 h.1 rfl ?_
        replace h := h.2
        exact zf_ri dX8_holds_47 rfl h
      · replace h := h.2 g
        refine zf_bi (v := 100) (pc' := 31) dX8_holds_29 rfl rfl ?_
        refine zf_ld (pc' := 32) (v := .inr (.inr (1, 63))) dX8_holds_31 rfl (fun _ _ _ => rfl) rfl rfl rfl ?_
        refine zf_gfr (pc' := 35) (b := 71) dX8_holds_32 rfl rfl (by decide) rfl rfl ?_
        refine zf_ld (pc' := 36) (v := .inl v1) dX8_holds_35 rfl (fun _ _ _ => rfl) rfl rfl rfl ?_
        refine zf_ial (pc' := 37) dX8_holds_36 rfl (⟨by decide, rfl⟩ : zf_arr 71 8).1 (⟨by decide, rfl⟩ : zf_arr 71 8).2 h.1 rfl ?_
        replace h := h.2
        refine zf_in (pc' := 38) (S' := [.inl (100 + (m2.1 71 (Int32.toInt v1).toNat))]) dX8_holds_37 rfl (fun _ _ _ => rfl) ?_
        refine zf_goto (tgt := 47) dX8_holds_38 rfl ?_
        exact zf_ri dX8_holds_47 rfl h
    · replace h := h.2 g
      refine zf_ic (v := (-1)) (pc' := 18) dX8_holds_17 rfl rfl ?_
      exact zf_ri dX8_holds_18 rfl h
def zt_164 : zx_MT := (8, yX8_isAsleep, cX8_isAsleep, 1, (some FieldType.boolean), 0, 0)
theorem zm_164 : zx_m 164 = zt_164 := rfl
theorem dX8_isAsleep_r0 : zdcP cX8_isAsleep 0 [(.aload_n 0, 1), (.getfield 204, 3), (.aload_n 0, 1), (.getfield 19, 3), (.if_icmp .lt 7, 3), (.iconst 1, 1), (.goto 4, 3), (.iconst 0, 1), (.ireturn, 1)] := zdcA_ok (by decide +kernel)
theorem dX8_isAsleep_0 : decode cX8_isAsleep 0 = .ok (.aload_n 0, 1) := dX8_isAsleep_r0.1
theorem dX8_isAsleep_1 : decode cX8_isAsleep 1 = .ok (.getfield 204, 3) := dX8_isAsleep_r0.2.1
theorem dX8_isAsleep_4 : decode cX8_isAsleep 4 = .ok (.aload_n 0, 1) := dX8_isAsleep_r0.2.2.1
theorem dX8_isAsleep_5 : decode cX8_isAsleep 5 = .ok (.getfield 19, 3) := dX8_isAsleep_r0.2.2.2.1
theorem dX8_isAsleep_8 : decode cX8_isAsleep 8 = .ok (.if_icmp .lt 7, 3) := dX8_isAsleep_r0.2.2.2.2.1
theorem dX8_isAsleep_11 : decode cX8_isAsleep 11 = .ok (.iconst 1, 1) := dX8_isAsleep_r0.2.2.2.2.2.1
theorem dX8_isAsleep_12 : decode cX8_isAsleep 12 = .ok (.goto 4, 3) := dX8_isAsleep_r0.2.2.2.2.2.2.1
theorem dX8_isAsleep_15 : decode cX8_isAsleep 15 = .ok (.iconst 0, 1) := dX8_isAsleep_r0.2.2.2.2.2.2.2.1
theorem dX8_isAsleep_16 : decode cX8_isAsleep 16 = .ok (.ireturn, 1) := dX8_isAsleep_r0.2.2.2.2.2.2.2.2.1
def wp_164 (m : zf_Me) (Q : Bool → zf_Me → Prop) : Prop := ((((m.1 63 6)).toInt < ((m.1 63 5)).toInt → Q false m) ∧ (((m.1 63 6)).toInt ≥ ((m.1 63 5)).toInt → Q true m))
theorem zr_164 {d : Nat} (hd : 0 ≤ d) {Q : Bool → zf_Me → Prop} {m : zf_Me} (h : wp_164 m Q) : zf_M d 164 [.inr (.inr (1, 63))] m (zf_B Q) := by
  unfold wp_164 at h
  refine zf_M_of (Nat.le_of_ble_eq_true rfl) zm_164 (L := [some (.inr (.inr (1, 63)))]) rfl ?_
  refine zf_ld (pc' := 1) (v := .inr (.inr (1, 63))) dX8_isAsleep_0 rfl (fun _ _ _ => rfl) rfl rfl rfl ?_
  refine zf_gfi (pc' := 4) dX8_isAsleep_1 rfl rfl (by decide) rfl rfl ?_
  refine zf_ld (pc' := 5) (v := .inr (.inr (1, 63))) dX8_isAsleep_4 rfl (fun _ _ _ => rfl) rfl rfl rfl ?_
  refine zf_gfi (pc' := 8) dX8_isAsleep_5 rfl rfl (by decide) rfl rfl ?_
  refine zf_icmp_lt (tgt := 15) (pc' := 11) dX8_isAsleep_8 rfl rfl (fun g => ?_) (fun g => ?_)
  · replace h := h.1 g
    refine zf_ic (v := 0) (pc' := 16) dX8_isAsleep_15 rfl rfl ?_
    exact zf_rb (b := false) dX8_isAsleep_16 rfl h
  · replace h := h.2 g
    refine zf_ic (v := 1) (pc' := 12) dX8_isAsleep_11 rfl rfl ?_
    refine zf_goto (tgt := 16) dX8_isAsleep_12 rfl ?_
    exact zf_rb (b := true) dX8_isAsleep_16 rfl h
def zt_165 : zx_MT := (8, yX8_loadOf, cX8_loadOf, 4, (some FieldType.int), 2, 0)
theorem zm_165 : zx_m 165 = zt_165 := rfl
theorem dX8_loadOf_r0 : zdcP cX8_loadOf 0 [(.iconst 4, 1), (.iload_n 2, 1), (.iadd, 1), (.istore_n 3, 1), (.aload_n 0, 1), (.getfield 47, 3), (.iload_n 1, 1), (.iaload, 1)] := zdcA_ok (by decide +kernel)
theorem dX8_loadOf_0 : decode cX8_loadOf 0 = .ok (.iconst 4, 1) := dX8_loadOf_r0.1
theorem dX8_loadOf_1 : decode cX8_loadOf 1 = .ok (.iload_n 2, 1) := dX8_loadOf_r0.2.1
theorem dX8_loadOf_2 : decode cX8_loadOf 2 = .ok (.iadd, 1) := dX8_loadOf_r0.2.2.1
theorem dX8_loadOf_3 : decode cX8_loadOf 3 = .ok (.istore_n 3, 1) := dX8_loadOf_r0.2.2.2.1
theorem dX8_loadOf_4 : decode cX8_loadOf 4 = .ok (.aload_n 0, 1) := dX8_loadOf_r0.2.2.2.2.1
theorem dX8_loadOf_5 : decode cX8_loadOf 5 = .ok (.getfield 47, 3) := dX8_loadOf_r0.2.2.2.2.2.1
theorem dX8_loadOf_8 : decode cX8_loadOf 8 = .ok (.iload_n 1, 1) := dX8_loadOf_r0.2.2.2.2.2.2.1
theorem dX8_loadOf_9 : decode cX8_loadOf 9 = .ok (.iaload, 1) := dX8_loadOf_r0.2.2.2.2.2.2.2.1
theorem dX8_loadOf_10 : decode cX8_loadOf 10 = .ok (.tableswitch 79 1 6 #[38, 50, 44, 56, 79, 62], 38) := by decide +kernel
theorem dX8_loadOf_r48 : zdcP cX8_loadOf 48 [(.iinc 3 (-1), 3), (.goto 38, 3), (.iinc 3 (-2), 3), (.goto 32, 3), (.iinc 3 1, 3), (.goto 26, 3), (.iinc 3 2, 3), (.goto 20, 3), (.iload_n 3, 1), (.iconst 2, 1), (.aload_n 0, 1), (.getfield 53, 3), (.iload_n 1, 1), (.iaload, 1), (.bipush 10, 2), (.idiv, 1)] := zdcA_ok (by decide +kernel)
theorem dX8_loadOf_48 : decode cX8_loadOf 48 = .ok (.iinc 3 (-1), 3) := dX8_loadOf_r48.1
theorem dX8_loadOf_51 : decode cX8_loadOf 51 = .ok (.goto 38, 3) := dX8_loadOf_r48.2.1
theorem dX8_loadOf_54 : decode cX8_loadOf 54 = .ok (.iinc 3 (-2), 3) := dX8_loadOf_r48.2.2.1
theorem dX8_loadOf_57 : decode cX8_loadOf 57 = .ok (.goto 32, 3) := dX8_loadOf_r48.2.2.2.1
theorem dX8_loadOf_60 : decode cX8_loadOf 60 = .ok (.iinc 3 1, 3) := dX8_loadOf_r48.2.2.2.2.1
theorem dX8_loadOf_63 : decode cX8_loadOf 63 = .ok (.goto 26, 3) := dX8_loadOf_r48.2.2.2.2.2.1
theorem dX8_loadOf_66 : decode cX8_loadOf 66 = .ok (.iinc 3 2, 3) := dX8_loadOf_r48.2.2.2.2.2.2.1
theorem dX8_loadOf_69 : decode cX8_loadOf 69 = .ok (.goto 20, 3) := dX8_loadOf_r48.2.2.2.2.2.2.2.1
theorem dX8_loadOf_72 : decode cX8_loadOf 72 = .ok (.iload_n 3, 1) := dX8_loadOf_r48.2.2.2.2.2.2.2.2.1
theorem dX8_loadOf_73 : decode cX8_loadOf 73 = .ok (.iconst 2, 1) := dX8_loadOf_r48.2.2.2.2.2.2.2.2.2.1
theorem dX8_loadOf_74 : decode cX8_loadOf 74 = .ok (.aload_n 0, 1) := dX8_loadOf_r48.2.2.2.2.2.2.2.2.2.2.1
theorem dX8_loadOf_75 : decode cX8_loadOf 75 = .ok (.getfield 53, 3) := dX8_loadOf_r48.2.2.2.2.2.2.2.2.2.2.2.1
theorem dX8_loadOf_78 : decode cX8_loadOf 78 = .ok (.iload_n 1, 1) := dX8_loadOf_r48.2.2.2.2.2.2.2.2.2.2.2.2.1
theorem dX8_loadOf_79 : decode cX8_loadOf 79 = .ok (.iaload, 1) := dX8_loadOf_r48.2.2.2.2.2.2.2.2.2.2.2.2.2.1
theorem dX8_loadOf_80 : decode cX8_loadOf 80 = .ok (.bipush 10, 2) := dX8_loadOf_r48.2.2.2.2.2.2.2.2.2.2.2.2.2.2.1
theorem dX8_loadOf_82 : decode cX8_loadOf 82 = .ok (.idiv, 1) := dX8_loadOf_r48.2.2.2.2.2.2.2.2.2.2.2.2.2.2.2.1
theorem dX8_loadOf_r83 : zdcP cX8_loadOf 83 [(.iadd, 1), (.iadd, 1), (.istore_n 3, 1), (.goto 3, 3), (.aload_n 0, 1), (.getfield 9, 3), (.iload_n 1, 1), (.if_icmp .ne 6, 3), (.iinc 3 2, 3), (.iload_n 3, 1), (.iconst 1, 1), (.if_icmp .ge 7, 3), (.iconst 1, 1), (.goto 4, 3), (.iload_n 3, 1), (.ireturn, 1)] := zdcA_ok (by decide +kernel)
theorem dX8_loadOf_83 : decode cX8_loadOf 83 = .ok (.iadd, 1) := dX8_loadOf_r83.1
theorem dX8_loadOf_84 : decode cX8_loadOf 84 = .ok (.iadd, 1) := dX8_loadOf_r83.2.1
theorem dX8_loadOf_85 : decode cX8_loadOf 85 = .ok (.istore_n 3, 1) := dX8_loadOf_r83.2.2.1
theorem dX8_loadOf_86 : decode cX8_loadOf 86 = .ok (.goto 3, 3) := dX8_loadOf_r83.2.2.2.1
theorem dX8_loadOf_89 : decode cX8_loadOf 89 = .ok (.aload_n 0, 1) := dX8_loadOf_r83.2.2.2.2.1
theorem dX8_loadOf_90 : decode cX8_loadOf 90 = .ok (.getfield 9, 3) := dX8_loadOf_r83.2.2.2.2.2.1
theorem dX8_loadOf_93 : decode cX8_loadOf 93 = .ok (.iload_n 1, 1) := dX8_loadOf_r83.2.2.2.2.2.2.1
theorem dX8_loadOf_94 : decode cX8_loadOf 94 = .ok (.if_icmp .ne 6, 3) := dX8_loadOf_r83.2.2.2.2.2.2.2.1
theorem dX8_loadOf_97 : decode cX8_loadOf 97 = .ok (.iinc 3 2, 3) := dX8_loadOf_r83.2.2.2.2.2.2.2.2.1
theorem dX8_loadOf_100 : decode cX8_loadOf 100 = .ok (.iload_n 3, 1) := dX8_loadOf_r83.2.2.2.2.2.2.2.2.2.1
theorem dX8_loadOf_101 : decode cX8_loadOf 101 = .ok (.iconst 1, 1) := dX8_loadOf_r83.2.2.2.2.2.2.2.2.2.2.1
theorem dX8_loadOf_102 : decode cX8_loadOf 102 = .ok (.if_icmp .ge 7, 3) := dX8_loadOf_r83.2.2.2.2.2.2.2.2.2.2.2.1
theorem dX8_loadOf_105 : decode cX8_loadOf 105 = .ok (.iconst 1, 1) := dX8_loadOf_r83.2.2.2.2.2.2.2.2.2.2.2.2.1
theorem dX8_loadOf_106 : decode cX8_loadOf 106 = .ok (.goto 4, 3) := dX8_loadOf_r83.2.2.2.2.2.2.2.2.2.2.2.2.2.1
theorem dX8_loadOf_109 : decode cX8_loadOf 109 = .ok (.iload_n 3, 1) := dX8_loadOf_r83.2.2.2.2.2.2.2.2.2.2.2.2.2.2.1
theorem dX8_loadOf_110 : decode cX8_loadOf 110 = .ok (.ireturn, 1) := dX8_loadOf_r83.2.2.2.2.2.2.2.2.2.2.2.2.2.2.2.1
def wq_165_100 (v1 : Int32) (v2 : Int32) (v3 : Int32) (m : zf_Me) (Q : Int32 → zf_Me → Prop) : Prop := ((v3.toInt ≥ 1 → Q v3 m) ∧ (v3.toInt < 1 → Q 1 m))
theorem zq_165_100 {d : Nat} (hd : 0 ≤ d) {v1 : Int32} {v2 : Int32} {Q : Int32 → zf_Me → Prop} {v3 : Int32} {m : zf_Me} (h : wq_165_100 v1 v2 v3 m Q) : zf_W none 0 0 d zt_165 100 [none, none, none, some (.inl v3)] [] m (zf_I Q) := by
  unfold wq_165_100 at h
  refine zf_ld (pc' := 101) (v := .inl v3) dX8_loadOf_100 rfl (fun _ _ _ => rfl) rfl rfl rfl ?_
  refine zf_ic (v := 1) (pc' := 102) dX8_loadOf_101 rfl rfl ?_
  refine zf_icmp_ge (tgt := 109) (pc' := 105) dX8_loadOf_102 rfl rfl (fun g => ?_) (fun g => ?_)
  · replace h := h.1 g
    refine zf_ld (pc' := 110) (v := .inl v3) dX8_loadOf_109 rfl (fun _ _ _ => rfl) rfl rfl rfl ?_
    exact zf_ri dX8_loadOf_110 rfl h
  · replace h := h.2 g
    refine zf_ic (v := 1) (pc' := 106) dX8_loadOf_105 rfl rfl ?_
    refine zf_goto (tgt := 110) dX8_loadOf_106 rfl ?_
    exact zf_ri dX8_loadOf_110 rfl h
def wq_165_89 (v1 : Int32) (v2 : Int32) (v3 : Int32) (m : zf_Me) (Q : Int32 → zf_Me → Prop) : Prop := ((¬ ((m.1 63 2)).toInt = v1.toInt → wq_165_100 v1 v2 v3 m Q) ∧ (((m.1 63 2)).toInt = v1.toInt → wq_165_100 v1 v2 (v3 + 2) m Q))
theorem zq_165_89 {d : Nat} (hd : 0 ≤ d) {v1 : Int32} {v2 : Int32} {Q : Int32 → zf_Me → Prop} {v3 : Int32} {m : zf_Me} (h : wq_165_89 v1 v2 v3 m Q) : zf_W none 0 0 d zt_165 89 [some (.inr (.inr (1, 63))), some (.inl v1), none, some (.inl v3)] [] m (zf_I Q) := by
  unfold wq_165_89 at h
  refine zf_ld (pc' := 90) (v := .inr (.inr (1, 63))) dX8_loadOf_89 rfl (fun _ _ _ => rfl) rfl rfl rfl ?_
  refine zf_gfi (pc' := 93) dX8_loadOf_90 rfl rfl (by decide) rfl rfl ?_
  refine zf_ld (pc' := 94) (v := .inl v1) dX8_loadOf_93 rfl (fun _ _ _ => rfl) rfl rfl rfl ?_
  refine zf_icmp_ne (tgt := 100) (pc' := 97) dX8_loadOf_94 rfl rfl (fun g => ?_) (fun g => ?_)
  · replace h := h.1 g
    exact zf_lo (zq_165_100 (by omega) h) ⟨rfl, trivial⟩
  · replace h := h.2 g
    refine zf_ii (y := (v3 + 2)) (L2 := [some (.inr (.inr (1, 63))), some (.inl v1), none, some (.inl (v3 + 2))]) (pc' := 100) dX8_loadOf_97 rfl rfl rfl rfl rfl ?_
    exact zf_lo (zq_165_100 (by omega) h) ⟨rfl, trivial⟩
def wp_165 (v1 : Int32) (v2 : Int32) (m : zf_Me) (Q : Int32 → zf_Me → Prop) : Prop := ((0 ≤ (Int32.toInt v1) ∧ (Int32.toInt v1) < (6 : Int)) ∧ (((((m.1 67 (Int32.toInt v1).toNat)).toInt < 1 ∨ ((m.1 67 (Int32.toInt v1).toNat)).toInt > 6) → wq_165_89 v1 v2 (4 + v2) m Q) ∧ (((m.1 67 (Int32.toInt v1).toNat)).toInt = 1 → wq_165_89 v1 v2 ((4 + v2) + (-1)) m Q) ∧ (((m.1 67 (Int32.toInt v1).toNat)).toInt = 2 → wq_165_89 v1 v2 ((4 + v2) + 1) m Q) ∧ (((m.1 67 (Int32.toInt v1).toNat)).toInt = 3 → wq_165_89 v1 v2 ((4 + v2) + (-2)) m Q) ∧ (((m.1 67 (Int32.toInt v1).toNat)).toInt = 4 → wq_165_89 v1 v2 ((4 + v2) + 2) m Q) ∧ (((m.1 67 (Int32.toInt v1).toNat)).toInt = 5 → wq_165_89 v1 v2 (4 + v2) m Q) ∧ (((m.1 67 (Int32.toInt v1).toNat)).toInt = 6 → ((0 ≤ (Int32.toInt v1) ∧ (Int32.toInt v1) < (6 : Int)) ∧ wq_165_89 v1 v2 ((4 + v2) + (2 + ((m.1 69 (Int32.toInt v1).toNat) / 10))) m Q))))
theorem zr_165 {d : Nat} (hd : 0 ≤ d) {v1 : Int32} {v2 : Int32} {Q : Int32 → zf_Me → Prop} {m : zf_Me} (h : wp_165 v1 v2 m Q) : zf_M d 165 [.inr (.inr (1, 63)), .inl v1, .inl v2] m (zf_I Q) := by
  unfold wp_165 at h
  refine zf_M_of (Nat.le_of_ble_eq_true rfl) zm_165 (L := [some (.inr (.inr (1, 63))), some (.inl v1), some (.inl v2), none]) rfl ?_
  refine zf_ic (v := 4) (pc' := 1) dX8_loadOf_0 rfl rfl ?_
  refine zf_ld (pc' := 2) (v := .inl v2) dX8_loadOf_1 rfl (fun _ _ _ => rfl) rfl rfl rfl ?_
  refine zf_in (pc' := 3) (S' := [.inl (4 + v2)]) dX8_loadOf_2 rfl (fun _ _ _ => rfl) ?_
  refine zf_st (pc' := 4) (L2 := [some (.inr (.inr (1, 63))), some (.inl v1), some (.inl v2), some (.inl (4 + v2))]) dX8_loadOf_3 rfl (fun _ _ _ => rfl) rfl rfl rfl rfl rfl rfl ?_
  refine zf_ld (pc' := 5) (v := .inr (.inr (1, 63))) dX8_loadOf_4 rfl (fun _ _ _ => rfl) rfl rfl rfl ?_
  refine zf_gfr (pc' := 8) (b := 67) dX8_loadOf_5 rfl rfl (by decide) rfl rfl ?_
  refine zf_ld (pc' := 9) (v := .inl v1) dX8_loadOf_8 rfl (fun _ _ _ => rfl) rfl rfl rfl ?_
  refine zf_ial (pc' := 10) dX8_loadOf_9 rfl (⟨by decide, rfl⟩ : zf_arr 67 6).1 (⟨by decide, rfl⟩ : zf_arr 67 6).2 h.1 rfl ?_
  replace h := h.2
  refine zf_tsc (tgd := 89) dX8_loadOf_10 rfl [48, 60, 54, 66, 89, 72] (by decide) (by decide) (fun g => ?_) (zl_cons (fun g => ?_) (zl_cons (fun g => ?_) (zl_cons (fun g => ?_) (zl_cons (fun g => ?_) (zl_cons (fun g => ?_) (zl_cons (fun g => ?_) (zl_nil)))))))
  · replace h := h.1 (by omega)
    exact zf_lo (zq_165_89 (by omega) h) ⟨rfl, rfl, rfl, trivial⟩
  · replace h := h.2.1 (by omega)
    refine zf_ii (y := ((4 + v2) + (-1))) (L2 := [some (.inr (.inr (1, 63))), some (.inl v1), some (.inl v2), some (.inl ((4 + v2) + (-1)))]) (pc' := 51) dX8_loadOf_48 rfl rfl rfl rfl rfl ?_
    refine zf_goto (tgt := 89) dX8_loadOf_51 rfl ?_
    exact zf_lo (zq_165_89 (by omega) h) ⟨rfl, rfl, rfl, trivial⟩
  · replace h := h.2.2.1 (by omega)
    refine zf_ii (y := ((4 + v2) + 1)) (L2 := [some (.inr (.inr (1, 63))), some (.inl v1), some (.inl v2), some (.inl ((4 + v2) + 1))]) (pc' := 63) dX8_loadOf_60 rfl rfl rfl rfl rfl ?_
    refine zf_goto (tgt := 89) dX8_loadOf_63 rfl ?_
    exact zf_lo (zq_165_89 (by omega) h) ⟨rfl, rfl, rfl, trivial⟩
  · replace h := h.2.2.2.1 (by omega)
    refine zf_ii (y := ((4 + v2) + (-2))) (L2 := [some (.inr (.inr (1, 63))), some (.inl v1), some (.inl v2), some (.inl ((4 + v2) + (-2)))]) (pc' := 57) dX8_loadOf_54 rfl rfl rfl rfl rfl ?_
    refine zf_goto (tgt := 89) dX8_loadOf_57 rfl ?_
    exact zf_lo (zq_165_89 (by omega) h) ⟨rfl, rfl, rfl, trivial⟩
  · replace h := h.2.2.2.2.1 (by omega)
    refine zf_ii (y := ((4 + v2) + 2)) (L2 := [some (.inr (.inr (1, 63))), some (.inl v1), some (.inl v2), some (.inl ((4 + v2) + 2))]) (pc' := 69) dX8_loadOf_66 rfl rfl rfl rfl rfl ?_
    refine zf_goto (tgt := 89) dX8_loadOf_69 rfl ?_
    exact zf_lo (zq_165_89 (by omega) h) ⟨rfl, rfl, rfl, trivial⟩
  · replace h := h.2.2.2.2.2.1 (by omega)
    exact zf_lo (zq_165_89 (by omega) h) ⟨rfl, rfl, rfl, trivial⟩
  · replace h := h.2.2.2.2.2.2 (by omega)
    refine zf_ld (pc' := 73) (v := .inl (4 + v2)) dX8_loadOf_72 rfl (fun _ _ _ => rfl) rfl rfl rfl ?_
    refine zf_ic (v := 2) (pc' := 74) dX8_loadOf_73 rfl rfl ?_
    refine zf_ld (pc' := 75) (v := .inr (.inr (1, 63))) dX8_loadOf_74 rfl (fun _ _ _ => rfl) rfl rfl rfl ?_
    refine zf_gfr (pc' := 78) (b := 69) dX8_loadOf_75 rfl rfl (by decide) rfl rfl ?_
    refine zf_ld (pc' := 79) (v := .inl v1) dX8_loadOf_78 rfl (fun _ _ _ => rfl) rfl rfl rfl ?_
    refine zf_ial (pc' := 80) dX8_loadOf_79 rfl (⟨by decide, rfl⟩ : zf_arr 69 6).1 (⟨by decide, rfl⟩ : zf_arr 69 6).2 h.1 rfl ?_
    replace h := h.2
    refine zf_bi (v := 10) (pc' := 82) dX8_loadOf_80 rfl rfl ?_
    refine zf_div (pc' := 83) dX8_loadOf_82 rfl (by decide) ?_
    refine zf_in (pc' := 84) (S' := [.inl (2 + ((m.1 69 (Int32.toInt v1).toNat) / 10)), .inl (4 + v2)]) dX8_loadOf_83 rfl (fun _ _ _ => rfl) ?_
    refine zf_in (pc' := 85) (S' := [.inl ((4 + v2) + (2 + ((m.1 69 (Int32.toInt v1).toNat) / 10)))]) dX8_loadOf_84 rfl (fun _ _ _ => rfl) ?_
    refine zf_st (pc' := 86) (L2 := [some (.inr (.inr (1, 63))), some (.inl v1), some (.inl v2), some (.inl ((4 + v2) + (2 + ((m.1 69 (Int32.toInt v1).toNat) / 10))))]) dX8_loadOf_85 rfl (fun _ _ _ => rfl) rfl rfl rfl rfl rfl rfl ?_
    refine zf_goto (tgt := 89) dX8_loadOf_86 rfl ?_
    exact zf_lo (zq_165_89 (by omega) h) ⟨rfl, rfl, rfl, trivial⟩
