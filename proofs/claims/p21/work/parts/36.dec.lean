/-! part 36: methods 136..: laid by wip/flat/dec.py -/
def zt_136 : zx_MT := (8, yX8_says, cX8_says, 6, (some FieldType.int), 2, 0)
theorem zm_136 : zx_m 136 = zt_136 := rfl
theorem dX8_says_r0 : zdcP cX8_says 0 [(.aload_n 0, 1), (.iload_n 1, 1), (.invokevirtual 111, 3), (.ifCond .eq 13, 3), (.iload_n 2, 1), (.ifCond .lt 9, 3), (.iload_n 2, 1), (.bipush 6, 2), (.if_icmp .le 9, 3), (.aload_n 0, 1), (.iconst (-1), 1), (.invokevirtual 115, 3), (.ireturn, 1), (.aload_n 0, 1), (.getfield 56, 3), (.iload_n 1, 1)] := zdcA_ok (by decide +kernel)
theorem dX8_says_0 : decode cX8_says 0 = .ok (.aload_n 0, 1) := dX8_says_r0.1
theorem dX8_says_1 : decode cX8_says 1 = .ok (.iload_n 1, 1) := dX8_says_r0.2.1
theorem dX8_says_2 : decode cX8_says 2 = .ok (.invokevirtual 111, 3) := dX8_says_r0.2.2.1
theorem dX8_says_5 : decode cX8_says 5 = .ok (.ifCond .eq 13, 3) := dX8_says_r0.2.2.2.1
theorem dX8_says_8 : decode cX8_says 8 = .ok (.iload_n 2, 1) := dX8_says_r0.2.2.2.2.1
theorem dX8_says_9 : decode cX8_says 9 = .ok (.ifCond .lt 9, 3) := dX8_says_r0.2.2.2.2.2.1
theorem dX8_says_12 : decode cX8_says 12 = .ok (.iload_n 2, 1) := dX8_says_r0.2.2.2.2.2.2.1
theorem dX8_says_13 : decode cX8_says 13 = .ok (.bipush 6, 2) := dX8_says_r0.2.2.2.2.2.2.2.1
theorem dX8_says_15 : decode cX8_says 15 = .ok (.if_icmp .le 9, 3) := dX8_says_r0.2.2.2.2.2.2.2.2.1
theorem dX8_says_18 : decode cX8_says 18 = .ok (.aload_n 0, 1) := dX8_says_r0.2.2.2.2.2.2.2.2.2.1
theorem dX8_says_19 : decode cX8_says 19 = .ok (.iconst (-1), 1) := dX8_says_r0.2.2.2.2.2.2.2.2.2.2.1
theorem dX8_says_20 : decode cX8_says 20 = .ok (.invokevirtual 115, 3) := dX8_says_r0.2.2.2.2.2.2.2.2.2.2.2.1
theorem dX8_says_23 : decode cX8_says 23 = .ok (.ireturn, 1) := dX8_says_r0.2.2.2.2.2.2.2.2.2.2.2.2.1
theorem dX8_says_24 : decode cX8_says 24 = .ok (.aload_n 0, 1) := dX8_says_r0.2.2.2.2.2.2.2.2.2.2.2.2.2.1
theorem dX8_says_25 : decode cX8_says 25 = .ok (.getfield 56, 3) := dX8_says_r0.2.2.2.2.2.2.2.2.2.2.2.2.2.2.1
theorem dX8_says_28 : decode cX8_says 28 = .ok (.iload_n 1, 1) := dX8_says_r0.2.2.2.2.2.2.2.2.2.2.2.2.2.2.2.1
theorem dX8_says_r29 : zdcP cX8_says 29 [(.iaload, 1), (.iconst 1, 1), (.if_icmp .ne 10, 3), (.aload_n 0, 1), (.bipush (-2), 2), (.invokevirtual 115, 3), (.ireturn, 1), (.aload_n 0, 1), (.getfield 56, 3), (.iload_n 1, 1), (.iaload, 1), (.ifCond .ne 10, 3), (.aload_n 0, 1), (.bipush (-3), 2), (.invokevirtual 115, 3), (.ireturn, 1)] := zdcA_ok (by decide +kernel)
theorem dX8_says_29 : decode cX8_says 29 = .ok (.iaload, 1) := dX8_says_r29.1
theorem dX8_says_30 : decode cX8_says 30 = .ok (.iconst 1, 1) := dX8_says_r29.2.1
theorem dX8_says_31 : decode cX8_says 31 = .ok (.if_icmp .ne 10, 3) := dX8_says_r29.2.2.1
theorem dX8_says_34 : decode cX8_says 34 = .ok (.aload_n 0, 1) := dX8_says_r29.2.2.2.1
theorem dX8_says_35 : decode cX8_says 35 = .ok (.bipush (-2), 2) := dX8_says_r29.2.2.2.2.1
theorem dX8_says_37 : decode cX8_says 37 = .ok (.invokevirtual 115, 3) := dX8_says_r29.2.2.2.2.2.1
theorem dX8_says_40 : decode cX8_says 40 = .ok (.ireturn, 1) := dX8_says_r29.2.2.2.2.2.2.1
theorem dX8_says_41 : decode cX8_says 41 = .ok (.aload_n 0, 1) := dX8_says_r29.2.2.2.2.2.2.2.1
theorem dX8_says_42 : decode cX8_says 42 = .ok (.getfield 56, 3) := dX8_says_r29.2.2.2.2.2.2.2.2.1
theorem dX8_says_45 : decode cX8_says 45 = .ok (.iload_n 1, 1) := dX8_says_r29.2.2.2.2.2.2.2.2.2.1
theorem dX8_says_46 : decode cX8_says 46 = .ok (.iaload, 1) := dX8_says_r29.2.2.2.2.2.2.2.2.2.2.1
theorem dX8_says_47 : decode cX8_says 47 = .ok (.ifCond .ne 10, 3) := dX8_says_r29.2.2.2.2.2.2.2.2.2.2.2.1
theorem dX8_says_50 : decode cX8_says 50 = .ok (.aload_n 0, 1) := dX8_says_r29.2.2.2.2.2.2.2.2.2.2.2.2.1
theorem dX8_says_51 : decode cX8_says 51 = .ok (.bipush (-3), 2) := dX8_says_r29.2.2.2.2.2.2.2.2.2.2.2.2.2.1
theorem dX8_says_53 : decode cX8_says 53 = .ok (.invokevirtual 115, 3) := dX8_says_r29.2.2.2.2.2.2.2.2.2.2.2.2.2.2.1
theorem dX8_says_56 : decode cX8_says 56 = .ok (.ireturn, 1) := dX8_says_r29.2.2.2.2.2.2.2.2.2.2.2.2.2.2.2.1
theorem dX8_says_r57 : zdcP cX8_says 57 [(.aload_n 0, 1), (.getfield 65, 3), (.iload_n 1, 1), (.iaload, 1), (.istore_n 3, 1), (.aload_n 0, 1), (.getfield 47, 3), (.iload_n 3, 1), (.iaload, 1), (.istore 4, 2), (.iload_n 2, 1), (.iconst 1, 1), (.if_icmp .ne 9, 3), (.iload 4, 2), (.iconst 3, 1), (.if_icmp .eq 26, 3)] := zdcA_ok (by decide +kernel)
theorem dX8_says_57 : decode cX8_says 57 = .ok (.aload_n 0, 1) := dX8_says_r57.1
theorem dX8_says_58 : decode cX8_says 58 = .ok (.getfield 65, 3) := dX8_says_r57.2.1
theorem dX8_says_61 : decode cX8_says 61 = .ok (.iload_n 1, 1) := dX8_says_r57.2.2.1
theorem dX8_says_62 : decode cX8_says 62 = .ok (.iaload, 1) := dX8_says_r57.2.2.2.1
theorem dX8_says_63 : decode cX8_says 63 = .ok (.istore_n 3, 1) := dX8_says_r57.2.2.2.2.1
theorem dX8_says_64 : decode cX8_says 64 = .ok (.aload_n 0, 1) := dX8_says_r57.2.2.2.2.2.1
theorem dX8_says_65 : decode cX8_says 65 = .ok (.getfield 47, 3) := dX8_says_r57.2.2.2.2.2.2.1
theorem dX8_says_68 : decode cX8_says 68 = .ok (.iload_n 3, 1) := dX8_says_r57.2.2.2.2.2.2.2.1
theorem dX8_says_69 : decode cX8_says 69 = .ok (.iaload, 1) := dX8_says_r57.2.2.2.2.2.2.2.2.1
theorem dX8_says_70 : decode cX8_says 70 = .ok (.istore 4, 2) := dX8_says_r57.2.2.2.2.2.2.2.2.2.1
theorem dX8_says_72 : decode cX8_says 72 = .ok (.iload_n 2, 1) := dX8_says_r57.2.2.2.2.2.2.2.2.2.2.1
theorem dX8_says_73 : decode cX8_says 73 = .ok (.iconst 1, 1) := dX8_says_r57.2.2.2.2.2.2.2.2.2.2.2.1
theorem dX8_says_74 : decode cX8_says 74 = .ok (.if_icmp .ne 9, 3) := dX8_says_r57.2.2.2.2.2.2.2.2.2.2.2.2.1
theorem dX8_says_77 : decode cX8_says 77 = .ok (.iload 4, 2) := dX8_says_r57.2.2.2.2.2.2.2.2.2.2.2.2.2.1
theorem dX8_says_79 : decode cX8_says 79 = .ok (.iconst 3, 1) := dX8_says_r57.2.2.2.2.2.2.2.2.2.2.2.2.2.2.1
theorem dX8_says_80 : decode cX8_says 80 = .ok (.if_icmp .eq 26, 3) := dX8_says_r57.2.2.2.2.2.2.2.2.2.2.2.2.2.2.2.1
theorem dX8_says_r83 : zdcP cX8_says 83 [(.iload_n 2, 1), (.iconst 2, 1), (.if_icmp .ne 9, 3), (.iload 4, 2), (.iconst 5, 1), (.if_icmp .eq 15, 3), (.iload_n 2, 1), (.iconst 4, 1), (.if_icmp .ne 14, 3), (.iload 4, 2), (.bipush 6, 2), (.if_icmp .ne 7, 3), (.iconst 1, 1), (.goto 4, 3), (.iconst 0, 1), (.istore 5, 2)] := zdcA_ok (by decide +kernel)
theorem dX8_says_83 : decode cX8_says 83 = .ok (.iload_n 2, 1) := dX8_says_r83.1
theorem dX8_says_84 : decode cX8_says 84 = .ok (.iconst 2, 1) := dX8_says_r83.2.1
theorem dX8_says_85 : decode cX8_says 85 = .ok (.if_icmp .ne 9, 3) := dX8_says_r83.2.2.1
theorem dX8_says_88 : decode cX8_says 88 = .ok (.iload 4, 2) := dX8_says_r83.2.2.2.1
theorem dX8_says_90 : decode cX8_says 90 = .ok (.iconst 5, 1) := dX8_says_r83.2.2.2.2.1
theorem dX8_says_91 : decode cX8_says 91 = .ok (.if_icmp .eq 15, 3) := dX8_says_r83.2.2.2.2.2.1
theorem dX8_says_94 : decode cX8_says 94 = .ok (.iload_n 2, 1) := dX8_says_r83.2.2.2.2.2.2.1
theorem dX8_says_95 : decode cX8_says 95 = .ok (.iconst 4, 1) := dX8_says_r83.2.2.2.2.2.2.2.1
theorem dX8_says_96 : decode cX8_says 96 = .ok (.if_icmp .ne 14, 3) := dX8_says_r83.2.2.2.2.2.2.2.2.1
theorem dX8_says_99 : decode cX8_says 99 = .ok (.iload 4, 2) := dX8_says_r83.2.2.2.2.2.2.2.2.2.1
theorem dX8_says_101 : decode cX8_says 101 = .ok (.bipush 6, 2) := dX8_says_r83.2.2.2.2.2.2.2.2.2.2.1
theorem dX8_says_103 : decode cX8_says 103 = .ok (.if_icmp .ne 7, 3) := dX8_says_r83.2.2.2.2.2.2.2.2.2.2.2.1
theorem dX8_says_106 : decode cX8_says 106 = .ok (.iconst 1, 1) := dX8_says_r83.2.2.2.2.2.2.2.2.2.2.2.2.1
theorem dX8_says_107 : decode cX8_says 107 = .ok (.goto 4, 3) := dX8_says_r83.2.2.2.2.2.2.2.2.2.2.2.2.2.1
theorem dX8_says_110 : decode cX8_says 110 = .ok (.iconst 0, 1) := dX8_says_r83.2.2.2.2.2.2.2.2.2.2.2.2.2.2.1
theorem dX8_says_111 : decode cX8_says 111 = .ok (.istore 5, 2) := dX8_says_r83.2.2.2.2.2.2.2.2.2.2.2.2.2.2.2.1
theorem dX8_says_r113 : zdcP cX8_says 113 [(.iload_n 2, 1), (.ifCond .eq 21, 3), (.iload_n 2, 1), (.iload 4, 2), (.if_icmp .eq 15, 3), (.iload 5, 2), (.ifCond .ne 10, 3), (.aload_n 0, 1), (.bipush (-2), 2), (.invokevirtual 115, 3), (.ireturn, 1), (.iload_n 2, 1)] := zdcA_ok (by decide +kernel)
theorem dX8_says_113 : decode cX8_says 113 = .ok (.iload_n 2, 1) := dX8_says_r113.1
theorem dX8_says_114 : decode cX8_says 114 = .ok (.ifCond .eq 21, 3) := dX8_says_r113.2.1
theorem dX8_says_117 : decode cX8_says 117 = .ok (.iload_n 2, 1) := dX8_says_r113.2.2.1
theorem dX8_says_118 : decode cX8_says 118 = .ok (.iload 4, 2) := dX8_says_r113.2.2.2.1
theorem dX8_says_120 : decode cX8_says 120 = .ok (.if_icmp .eq 15, 3) := dX8_says_r113.2.2.2.2.1
theorem dX8_says_123 : decode cX8_says 123 = .ok (.iload 5, 2) := dX8_says_r113.2.2.2.2.2.1
theorem dX8_says_125 : decode cX8_says 125 = .ok (.ifCond .ne 10, 3) := dX8_says_r113.2.2.2.2.2.2.1
theorem dX8_says_128 : decode cX8_says 128 = .ok (.aload_n 0, 1) := dX8_says_r113.2.2.2.2.2.2.2.1
theorem dX8_says_129 : decode cX8_says 129 = .ok (.bipush (-2), 2) := dX8_says_r113.2.2.2.2.2.2.2.2.1
theorem dX8_says_131 : decode cX8_says 131 = .ok (.invokevirtual 115, 3) := dX8_says_r113.2.2.2.2.2.2.2.2.2.1
theorem dX8_says_134 : decode cX8_says 134 = .ok (.ireturn, 1) := dX8_says_r113.2.2.2.2.2.2.2.2.2.2.1
theorem dX8_says_135 : decode cX8_says 135 = .ok (.iload_n 2, 1) := dX8_says_r113.2.2.2.2.2.2.2.2.2.2.2.1
theorem dX8_says_136 : decode cX8_says 136 = .ok (.tableswitch 72 0 5 #[40, 47, 59, 47, 72, 59], 40) := by decide +kernel
theorem dX8_says_r176 : zdcP cX8_says 176 [(.aload_n 0, 1), (.getfield 53, 3), (.iload_n 3, 1), (.iaload, 1), (.ireturn, 1), (.iload 4, 2), (.iconst 3, 1), (.if_icmp .ne 7, 3), (.iconst 3, 1), (.goto 4, 3), (.iconst 2, 1), (.ireturn, 1), (.aload_n 0, 1), (.invokevirtual 122, 3), (.ifCond .eq 7, 3), (.iconst 1, 1)] := zdcA_ok (by decide +kernel)
theorem dX8_says_176 : decode cX8_says 176 = .ok (.aload_n 0, 1) := dX8_says_r176.1
theorem dX8_says_177 : decode cX8_says 177 = .ok (.getfield 53, 3) := dX8_says_r176.2.1
theorem dX8_says_180 : decode cX8_says 180 = .ok (.iload_n 3, 1) := dX8_says_r176.2.2.1
theorem dX8_says_181 : decode cX8_says 181 = .ok (.iaload, 1) := dX8_says_r176.2.2.2.1
theorem dX8_says_182 : decode cX8_says 182 = .ok (.ireturn, 1) := dX8_says_r176.2.2.2.2.1
theorem dX8_says_183 : decode cX8_says 183 = .ok (.iload 4, 2) := dX8_says_r176.2.2.2.2.2.1
theorem dX8_says_185 : decode cX8_says 185 = .ok (.iconst 3, 1) := dX8_says_r176.2.2.2.2.2.2.1
theorem dX8_says_186 : decode cX8_says 186 = .ok (.if_icmp .ne 7, 3) := dX8_says_r176.2.2.2.2.2.2.2.1
theorem dX8_says_189 : decode cX8_says 189 = .ok (.iconst 3, 1) := dX8_says_r176.2.2.2.2.2.2.2.2.1
theorem dX8_says_190 : decode cX8_says 190 = .ok (.goto 4, 3) := dX8_says_r176.2.2.2.2.2.2.2.2.2.1
theorem dX8_says_193 : decode cX8_says 193 = .ok (.iconst 2, 1) := dX8_says_r176.2.2.2.2.2.2.2.2.2.2.1
theorem dX8_says_194 : decode cX8_says 194 = .ok (.ireturn, 1) := dX8_says_r176.2.2.2.2.2.2.2.2.2.2.2.1
theorem dX8_says_195 : decode cX8_says 195 = .ok (.aload_n 0, 1) := dX8_says_r176.2.2.2.2.2.2.2.2.2.2.2.2.1
theorem dX8_says_196 : decode cX8_says 196 = .ok (.invokevirtual 122, 3) := dX8_says_r176.2.2.2.2.2.2.2.2.2.2.2.2.2.1
theorem dX8_says_199 : decode cX8_says 199 = .ok (.ifCond .eq 7, 3) := dX8_says_r176.2.2.2.2.2.2.2.2.2.2.2.2.2.2.1
theorem dX8_says_202 : decode cX8_says 202 = .ok (.iconst 1, 1) := dX8_says_r176.2.2.2.2.2.2.2.2.2.2.2.2.2.2.2.1
theorem dX8_says_r203 : zdcP cX8_says 203 [(.goto 4, 3), (.iconst 0, 1), (.ireturn, 1), (.aload_n 0, 1), (.iload_n 3, 1), (.iconst 0, 1), (.invokevirtual 126, 3), (.ireturn, 1)] := zdcA_ok (by decide +kernel)
theorem dX8_says_203 : decode cX8_says 203 = .ok (.goto 4, 3) := dX8_says_r203.1
theorem dX8_says_206 : decode cX8_says 206 = .ok (.iconst 0, 1) := dX8_says_r203.2.1
theorem dX8_says_207 : decode cX8_says 207 = .ok (.ireturn, 1) := dX8_says_r203.2.2.1
theorem dX8_says_208 : decode cX8_says 208 = .ok (.aload_n 0, 1) := dX8_says_r203.2.2.2.1
theorem dX8_says_209 : decode cX8_says 209 = .ok (.iload_n 3, 1) := dX8_says_r203.2.2.2.2.1
theorem dX8_says_210 : decode cX8_says 210 = .ok (.iconst 0, 1) := dX8_says_r203.2.2.2.2.2.1
theorem dX8_says_211 : decode cX8_says 211 = .ok (.invokevirtual 126, 3) := dX8_says_r203.2.2.2.2.2.2.1
theorem dX8_says_214 : decode cX8_says 214 = .ok (.ireturn, 1) := dX8_says_r203.2.2.2.2.2.2.2.1
def wq_136_135 (v1 : Int32) (v2 : Int32) (v3 : Int32) (v4 : Int32) (m : zf_Me) (Q : Int32 → zf_Me → Prop) : Prop := (((v2.toInt < 0 ∨ v2.toInt > 5) → wp_165 v3 0 m (fun x7 m8 => Q x7 m8)) ∧ (v2.toInt = 0 → ((0 ≤ (Int32.toInt v3) ∧ (Int32.toInt v3) < (6 : Int)) ∧ Q (m.1 69 (Int32.toInt v3).toNat) m)) ∧ (v2.toInt = 1 → ((¬ v4.toInt = 3 → Q 2 m) ∧ (v4.toInt = 3 → Q 3 m))) ∧ (v2.toInt = 2 → wp_164 m (fun b9 m10 => ((b9 = false → Q 0 m10) ∧ (b9 = true → Q 1 m10)))) ∧ (v2.toInt = 3 → ((¬ v4.toInt = 3 → Q 2 m) ∧ (v4.toInt = 3 → Q 3 m))) ∧ (v2.toInt = 4 → wp_165 v3 0 m (fun x11 m12 => Q x11 m12)) ∧ (v2.toInt = 5 → wp_164 m (fun b13 m14 => ((b13 = false → Q 0 m14) ∧ (b13 = true → Q 1 m14)))))
theorem zq_136_135 {d : Nat} (hd : 1 ≤ d) {v1 : Int32} {v2 : Int32} {Q : Int32 → zf_Me → Prop} {v3 : Int32} {v4 : Int32} {m : zf_Me} (h : wq_136_135 v1 v2 v3 v4 m Q) : zf_W none 0 0 d zt_136 135 [some (.inr (.inr (1, 63))), none, some (.inl v2), some (.inl v3), some (.inl v4), none] [] m (zf_I Q) := by
  obtain ⟨e, rfl⟩ : ∃ z, d = z + 1 := ⟨d - 1, by omega⟩
  unfold wq_136_135 at h
  refine zf_ld (pc' := 136) (v := .inl v2) dX8_says_135 rfl (fun _ _ _ => rfl) rfl rfl rfl ?_
  refine zf_tsc (tgd := 208) dX8_says_136 rfl [176, 183, 195, 183, 208, 195] (by decide) (by decide) (fun g => ?_) (zl_cons (fun g => ?_) (zl_cons (fun g => ?_) (zl_cons (fun g => ?_) (zl_cons (fun g => ?_) (zl_cons (fun g => ?_) (zl_cons (fun g => ?_) (zl_nil)))))))
  · replace h := h.1 (by omega)
    refine zf_ld (pc' := 209) (v := .inr (.inr (1, 63))) dX8_says_208 rfl (fun _ _ _ => rfl) rfl rfl rfl ?_
    refine zf_ld (pc' := 210) (v := .inl v3) dX8_says_209 rfl (fun _ _ _ => rfl) rfl rfl rfl ?_
    refine zf_ic (v := 0) (pc' := 211) dX8_says_210 rfl rfl ?_
    refine zf_iv (k := 165) (pc' := 214) (r := []) dX8_says_211 rfl rfl rfl rfl (by decide) rfl rfl rfl (zr_165 (by omega) h) (zf_kI (fun x7 m8 h => ?_))
    exact zf_ri dX8_says_214 rfl h
  · replace h := h.2.1 (by omega)
    refine zf_ld (pc' := 177) (v := .inr (.inr (1, 63))) dX8_says_176 rfl (fun _ _ _ => rfl) rfl rfl rfl ?_
    refine zf_gfr (pc' := 180) (b := 69) dX8_says_177 rfl rfl (by decide) rfl rfl ?_
    refine zf_ld (pc' := 181) (v := .inl v3) dX8_says_180 rfl (fun _ _ _ => rfl) rfl rfl rfl ?_
    refine zf_ial (pc' := 182) dX8_says_181 rfl (⟨by decide, rfl⟩ : zf_arr 69 6).1 (⟨by decide, rfl⟩ : zf_arr 69 6).2 h.1 rfl ?_
    replace h := h.2
    exact zf_ri dX8_says_182 rfl h
  · replace h := h.2.2.1 (by omega)
    refine zf_ld (pc' := 185) (v := .inl v4) dX8_says_183 rfl (fun _ _ _ => rfl) rfl rfl rfl ?_
    refine zf_ic (v := 3) (pc' := 186) dX8_says_185 rfl rfl ?_
    refine zf_icmp_ne (tgt := 193) (pc' := 189) dX8_says_186 rfl rfl (fun g => ?_) (fun g => ?_)
    · replace h := h.1 g
      refine zf_ic (v := 2) (pc' := 194) dX8_says_193 rfl rfl ?_
      exact zf_ri dX8_says_194 rfl h
    · replace h := h.2 g
      refine zf_ic (v := 3) (pc' := 190) dX8_says_189 rfl rfl ?_
      refine zf_goto (tgt := 194) dX8_says_190 rfl ?_
      exact zf_ri dX8_says_194 rfl h
  · replace h := h.2.2.2.1 (by omega)
    refine zf_ld (pc' := 196) (v := .inr (.inr (1, 63))) dX8_says_195 rfl (fun _ _ _ => rfl) rfl rfl rfl ?_
    refine zf_iv (k := 164) (pc' := 199) (r := []) dX8_says_196 rfl rfl rfl rfl (by decide) rfl rfl rfl (zr_164 (by omega) h) (zf_kB (fun b9 m10 h => ?_))
    refine zf_ib_eq (tgt := 206) (pc' := 202) dX8_says_199 rfl rfl (fun g => ?_) (fun g => ?_)
    · replace h := h.1 g
      refine zf_ic (v := 0) (pc' := 207) dX8_says_206 rfl rfl ?_
      exact zf_ri dX8_says_207 rfl h
    · replace h := h.2 g
      refine zf_ic (v := 1) (pc' := 203) dX8_says_202 rfl rfl ?_
      refine zf_goto (tgt := 207) dX8_says_203 rfl ?_
      exact zf_ri dX8_says_207 rfl h
  · replace h := h.2.2.2.2.1 (by omega)
    refine zf_ld (pc' := 185) (v := .inl v4) dX8_says_183 rfl (fun _ _ _ => rfl) rfl rfl rfl ?_
    refine zf_ic (v := 3) (pc' := 186) dX8_says_185 rfl rfl ?_
    refine zf_icmp_ne (tgt := 193) (pc' := 189) dX8_says_186 rfl rfl (fun g => ?_) (fun g => ?_)
    · replace h := h.1 g
      refine zf_ic (v := 2) (pc' := 194) dX8_says_193 rfl rfl ?_
      exact zf_ri dX8_says_194 rfl h
    · replace h := h.2 g
      refine zf_ic (v := 3) (pc' := 190) dX8_says_189 rfl rfl ?_
      refine zf_goto (tgt := 194) dX8_says_190 rfl ?_
      exact zf_ri dX8_says_194 rfl h
  · replace h := h.2.2.2.2.2.1 (by omega)
    refine zf_ld (pc' := 209) (v := .inr (.inr (1, 63))) dX8_says_208 rfl (fun _ _ _ => rfl) rfl rfl rfl ?_
    refine zf_ld (pc' := 210) (v := .inl v3) dX8_says_209 rfl (fun _ _ _ => rfl) rfl rfl rfl ?_
    refine zf_ic (v := 0) (pc' := 211) dX8_says_210 rfl rfl ?_
    refine zf_iv (k := 165) (pc' := 214) (r := []) dX8_says_211 rfl rfl rfl rfl (by decide) rfl rfl rfl (zr_165 (by omega) h) (zf_kI (fun x11 m12 h => ?_))
    exact zf_ri dX8_says_214 rfl h
  · replace h := h.2.2.2.2.2.2 (by omega)
    refine zf_ld (pc' := 196) (v := .inr (.inr (1, 63))) dX8_says_195 rfl (fun _ _ _ => rfl) rfl rfl rfl ?_
    refine zf_iv (k := 164) (pc' := 199) (r := []) dX8_says_196 rfl rfl rfl rfl (by decide) rfl rfl rfl (zr_164 (by omega) h) (zf_kB (fun b13 m14 h => ?_))
    refine zf_ib_eq (tgt := 206) (pc' := 202) dX8_says_199 rfl rfl (fun g => ?_) (fun g => ?_)
    · replace h := h.1 g
      refine zf_ic (v := 0) (pc' := 207) dX8_says_206 rfl rfl ?_
      exact zf_ri dX8_says_207 rfl h
    · replace h := h.2 g
      refine zf_ic (v := 1) (pc' := 203) dX8_says_202 rfl rfl ?_
      refine zf_goto (tgt := 207) dX8_says_203 rfl ?_
      exact zf_ri dX8_says_207 rfl h
def wq_136_111 (v1 : Int32) (v2 : Int32) (v3 : Int32) (v4 : Int32) (u0 : Int32) (m : zf_Me) (Q : Int32 → zf_Me → Prop) : Prop := ((v2.toInt = 0 → wq_136_135 v1 v2 v3 v4 m Q) ∧ (¬ v2.toInt = 0 → ((v2.toInt = v4.toInt → wq_136_135 v1 v2 v3 v4 m Q) ∧ (¬ v2.toInt = v4.toInt → ((¬ u0.toInt = 0 → wq_136_135 v1 v2 v3 v4 m Q) ∧ (u0.toInt = 0 → wp_125 (-2) m (fun x15 m16 => Q x15 m16)))))))
theorem zq_136_111 {d : Nat} (hd : 1 ≤ d) {v1 : Int32} {v2 : Int32} {Q : Int32 → zf_Me → Prop} {v3 : Int32} {v4 : Int32} {u0 : Int32} {m : zf_Me} (h : wq_136_111 v1 v2 v3 v4 u0 m Q) : zf_W none 0 0 d zt_136 111 [some (.inr (.inr (1, 63))), none, some (.inl v2), some (.inl v3), some (.inl v4), none] [.inl u0] m (zf_I Q) := by
  obtain ⟨e, rfl⟩ : ∃ z, d = z + 1 := ⟨d - 1, by omega⟩
  unfold wq_136_111 at h
  refine zf_st (pc' := 113) (L2 := [some (.inr (.inr (1, 63))), none, some (.inl v2), some (.inl v3), some (.inl v4), some (.inl u0)]) dX8_says_111 rfl (fun _ _ _ => rfl) rfl rfl rfl rfl rfl rfl ?_
  refine zf_ld (pc' := 114) (v := .inl v2) dX8_says_113 rfl (fun _ _ _ => rfl) rfl rfl rfl ?_
  refine zf_if_eq (tgt := 135) (pc' := 117) dX8_says_114 rfl rfl (fun g => ?_) (fun g => ?_)
  · replace h := h.1 g
    exact zf_lo (zq_136_135 (by omega) h) ⟨rfl, rfl, rfl, rfl, trivial⟩
  · replace h := h.2 g
    refine zf_ld (pc' := 118) (v := .inl v2) dX8_says_117 rfl (fun _ _ _ => rfl) rfl rfl rfl ?_
    refine zf_ld (pc' := 120) (v := .inl v4) dX8_says_118 rfl (fun _ _ _ => rfl) rfl rfl rfl ?_
    refine zf_icmp_eq (tgt := 135) (pc' := 123) dX8_says_120 rfl rfl (fun g => ?_) (fun g => ?_)
    · replace h := h.1 g
      exact zf_lo (zq_136_135 (by omega) h) ⟨rfl, rfl, rfl, rfl, trivial⟩
    · replace h := h.2 g
      refine zf_ld (pc' := 125) (v := .inl u0) dX8_says_123 rfl (fun _ _ _ => rfl) rfl rfl rfl ?_
      refine zf_if_ne (tgt := 135) (pc' := 128) dX8_says_125 rfl rfl (fun g => ?_) (fun g => ?_)
      · replace h := h.1 g
        exact zf_lo (zq_136_135 (by omega) h) ⟨rfl, rfl, rfl, rfl, trivial⟩
      · replace h := h.2 g
        refine zf_ld (pc' := 129) (v := .inr (.inr (1, 63))) dX8_says_128 rfl (fun _ _ _ => rfl) rfl rfl rfl ?_
        refine zf_bi (v := (-2)) (pc' := 131) dX8_says_129 rfl rfl ?_
        refine zf_iv (k := 125) (pc' := 134) (r := []) dX8_says_131 rfl rfl rfl rfl (by decide) rfl rfl rfl (zr_125 (by omega) h) (zf_kI (fun x15 m16 h => ?_))
        exact zf_ri dX8_says_134 rfl h
def wq_136_110 (v1 : Int32) (v2 : Int32) (v3 : Int32) (v4 : Int32) (m : zf_Me) (Q : Int32 → zf_Me → Prop) : Prop := wq_136_111 v1 v2 v3 v4 0 m Q
theorem zq_136_110 {d : Nat} (hd : 1 ≤ d) {v1 : Int32} {v2 : Int32} {Q : Int32 → zf_Me → Prop} {v3 : Int32} {v4 : Int32} {m : zf_Me} (h : wq_136_110 v1 v2 v3 v4 m Q) : zf_W none 0 0 d zt_136 110 [some (.inr (.inr (1, 63))), none, some (.inl v2), some (.inl v3), some (.inl v4), none] [] m (zf_I Q) := by
  unfold wq_136_110 at h
  refine zf_ic (v := 0) (pc' := 111) dX8_says_110 rfl rfl ?_
  exact zf_lo (zq_136_111 (by omega) h) ⟨rfl, rfl, rfl, rfl, trivial⟩
def wq_136_106 (v1 : Int32) (v2 : Int32) (v3 : Int32) (v4 : Int32) (m : zf_Me) (Q : Int32 → zf_Me → Prop) : Prop := wq_136_111 v1 v2 v3 v4 1 m Q
theorem zq_136_106 {d : Nat} (hd : 1 ≤ d) {v1 : Int32} {v2 : Int32} {Q : Int32 → zf_Me → Prop} {v3 : Int32} {v4 : Int32} {m : zf_Me} (h : wq_136_106 v1 v2 v3 v4 m Q) : zf_W none 0 0 d zt_136 106 [some (.inr (.inr (1, 63))), none, some (.inl v2), some (.inl v3), some (.inl v4), none] [] m (zf_I Q) := by
  unfold wq_136_106 at h
  refine zf_ic (v := 1) (pc' := 107) dX8_says_106 rfl rfl ?_
  refine zf_goto (tgt := 111) dX8_says_107 rfl ?_
  exact zf_lo (zq_136_111 (by omega) h) ⟨rfl, rfl, rfl, rfl, trivial⟩
def wq_136_94 (v1 : Int32) (v2 : Int32) (v3 : Int32) (v4 : Int32) (m : zf_Me) (Q : Int32 → zf_Me → Prop) : Prop := ((¬ v2.toInt = 4 → wq_136_110 v1 v2 v3 v4 m Q) ∧ (v2.toInt = 4 → ((¬ v4.toInt = 6 → wq_136_110 v1 v2 v3 v4 m Q) ∧ (v4.toInt = 6 → wq_136_106 v1 v2 v3 v4 m Q))))
theorem zq_136_94 {d : Nat} (hd : 1 ≤ d) {v1 : Int32} {v2 : Int32} {Q : Int32 → zf_Me → Prop} {v3 : Int32} {v4 : Int32} {m : zf_Me} (h : wq_136_94 v1 v2 v3 v4 m Q) : zf_W none 0 0 d zt_136 94 [some (.inr (.inr (1, 63))), none, some (.inl v2), some (.inl v3), some (.inl v4), none] [] m (zf_I Q) := by
  unfold wq_136_94 at h
  refine zf_ld (pc' := 95) (v := .inl v2) dX8_says_94 rfl (fun _ _ _ => rfl) rfl rfl rfl ?_
  refine zf_ic (v := 4) (pc' := 96) dX8_says_95 rfl rfl ?_
  refine zf_icmp_ne (tgt := 110) (pc' := 99) dX8_says_96 rfl rfl (fun g => ?_) (fun g => ?_)
  · replace h := h.1 g
    exact zf_lo (zq_136_110 (by omega) h) ⟨rfl, rfl, rfl, rfl, trivial⟩
  · replace h := h.2 g
    refine zf_ld (pc' := 101) (v := .inl v4) dX8_says_99 rfl (fun _ _ _ => rfl) rfl rfl rfl ?_
    refine zf_bi (v := 6) (pc' := 103) dX8_says_101 rfl rfl ?_
    refine zf_icmp_ne (tgt := 110) (pc' := 106) dX8_says_103 rfl rfl (fun g => ?_) (fun g => ?_)
    · replace h := h.1 g
      exact zf_lo (zq_136_110 (by omega) h) ⟨rfl, rfl, rfl, rfl, trivial⟩
    · replace h := h.2 g
      exact zf_lo (zq_136_106 (by omega) h) ⟨rfl, rfl, rfl, rfl, trivial⟩
def wq_136_83 (v1 : Int32) (v2 : Int32) (v3 : Int32) (v4 : Int32) (m : zf_Me) (Q : Int32 → zf_Me → Prop) : Prop := ((¬ v2.toInt = 2 → wq_136_94 v1 v2 v3 v4 m Q) ∧ (v2.toInt = 2 → ((v4.toInt = 5 → wq_136_106 v1 v2 v3 v4 m Q) ∧ (¬ v4.toInt = 5 → wq_136_94 v1 v2 v3 v4 m Q))))
theorem zq_136_83 {d : Nat} (hd : 1 ≤ d) {v1 : Int32} {v2 : Int32} {Q : Int32 → zf_Me → Prop} {v3 : Int32} {v4 : Int32} {m : zf_Me} (h : wq_136_83 v1 v2 v3 v4 m Q) : zf_W none 0 0 d zt_136 83 [some (.inr (.inr (1, 63))), none, some (.inl v2), some (.inl v3), some (.inl v4), none] [] m (zf_I Q) := by
  unfold wq_136_83 at h
  refine zf_ld (pc' := 84) (v := .inl v2) dX8_says_83 rfl (fun _ _ _ => rfl) rfl rfl rfl ?_
  refine zf_ic (v := 2) (pc' := 85) dX8_says_84 rfl rfl ?_
  refine zf_icmp_ne (tgt := 94) (pc' := 88) dX8_says_85 rfl rfl (fun g => ?_) (fun g => ?_)
  · replace h := h.1 g
    exact zf_lo (zq_136_94 (by omega) h) ⟨rfl, rfl, rfl, rfl, trivial⟩
  · replace h := h.2 g
    refine zf_ld (pc' := 90) (v := .inl v4) dX8_says_88 rfl (fun _ _ _ => rfl) rfl rfl rfl ?_
    refine zf_ic (v := 5) (pc' := 91) dX8_says_90 rfl rfl ?_
    refine zf_icmp_eq (tgt := 106) (pc' := 94) dX8_says_91 rfl rfl (fun g => ?_) (fun g => ?_)
    · replace h := h.1 g
      exact zf_lo (zq_136_106 (by omega) h) ⟨rfl, rfl, rfl, rfl, trivial⟩
    · replace h := h.2 g
      exact zf_lo (zq_136_94 (by omega) h) ⟨rfl, rfl, rfl, rfl, trivial⟩
def wp_136 (v1 : Int32) (v2 : Int32) (m : zf_Me) (Q : Int32 → zf_Me → Prop) : Prop := wp_127 v1 m (fun b1 m2 => ((b1 = false → wp_125 (-1) m2 (fun x3 m4 => Q x3 m4)) ∧ (b1 = true → ((v2.toInt < 0 → wp_125 (-1) m2 (fun x5 m6 => Q x5 m6)) ∧ (v2.toInt ≥ 0 → ((v2.toInt ≤ 6 → ((0 ≤ (Int32.toInt v1) ∧ (Int32.toInt v1) < (8 : Int)) ∧ ((¬ ((m2.1 70 (Int32.toInt v1).toNat)).toInt = 1 → ((0 ≤ (Int32.toInt v1) ∧ (Int32.toInt v1) < (8 : Int)) ∧ ((¬ ((m2.1 70 (Int32.toInt v1).toNat)).toInt = 0 → ((0 ≤ (Int32.toInt v1) ∧ (Int32.toInt v1) < (8 : Int)) ∧ ((0 ≤ (Int32.toInt (m2.1 73 (Int32.toInt v1).toNat)) ∧ (Int32.toInt (m2.1 73 (Int32.toInt v1).toNat)) < (6 : Int)) ∧ ((¬ v2.toInt = 1 → wq_136_83 v1 v2 (m2.1 73 (Int32.toInt v1).toNat) (m2.1 67 (Int32.toInt (m2.1 73 (Int32.toInt v1).toNat)).toNat) m2 Q) ∧ (v2.toInt = 1 → ((((m2.1 67 (Int32.toInt (m2.1 73 (Int32.toInt v1).toNat)).toNat)).toInt = 3 → wq_136_106 v1 v2 (m2.1 73 (Int32.toInt v1).toNat) (m2.1 67 (Int32.toInt (m2.1 73 (Int32.toInt v1).toNat)).toNat) m2 Q) ∧ (¬ ((m2.1 67 (Int32.toInt (m2.1 73 (Int32.toInt v1).toNat)).toNat)).toInt = 3 → wq_136_83 v1 v2 (m2.1 73 (Int32.toInt v1).toNat) (m2.1 67 (Int32.toInt (m2.1 73 (Int32.toInt v1).toNat)).toNat) m2 Q))))))) ∧ (((m2.1 70 (Int32.toInt v1).toNat)).toInt = 0 → wp_125 (-3) m2 (fun x17 m18 => Q x17 m18))))) ∧ (((m2.1 70 (Int32.toInt v1).toNat)).toInt = 1 → wp_125 (-2) m2 (fun x19 m20 => Q x19 m20))))) ∧ (v2.toInt > 6 → wp_125 (-1) m2 (fun x21 m22 => Q x21 m22))))))))
theorem zr_136 {d : Nat} (hd : 1 ≤ d) {v1 : Int32} {v2 : Int32} {Q : Int32 → zf_Me → Prop} {m : zf_Me} (h : wp_136 v1 v2 m Q) : zf_M d 136 [.inr (.inr (1, 63)), .inl v1, .inl v2] m (zf_I Q) := by
  obtain ⟨e, rfl⟩ : ∃ z, d = z + 1 := ⟨d - 1, by omega⟩
  unfold wp_136 at h
  refine zf_M_of (Nat.le_of_ble_eq_true rfl) zm_136 (L := [some (.inr (.inr (1, 63))), some (.inl v1), some (.inl v2), none, none, none]) rfl ?_
  refine zf_ld (pc' := 1) (v := .inr (.inr (1, 63))) dX8_says_0 rfl (fun _ _ _ => rfl) rfl rfl rfl ?_
  refine zf_ld (pc' := 2) (v := .inl v1) dX8_says_1 rfl (fun _ _ _ => rfl) rfl rfl rfl ?_
  refine zf_iv (k := 127) (pc' := 5) (r := []) dX8_says_2 rfl rfl rfl rfl (by decide) rfl rfl rfl (zr_127 (by omega) h) (zf_kB (fun b1 m2 h => ?_))
  refine zf_ib_eq (tgt := 18) (pc' := 8) dX8_says_5 rfl rfl (fun g => ?_) (fun g => ?_)
  · replace h := h.1 g
    refine zf_ld (pc' := 19) (v := .inr (.inr (1, 63))) dX8_says_18 rfl (fun _ _ _ => rfl) rfl rfl rfl ?_
    refine zf_ic (v := (-1)) (pc' := 20) dX8_says_19 rfl rfl ?_
    refine zf_iv (k := 125) (pc' := 23) (r := []) dX8_says_20 rfl rfl rfl rfl (by decide) rfl rfl rfl (zr_125 (by omega) h) (zf_kI (fun x3 m4 h => ?_))
    exact zf_ri dX8_says_23 rfl h
  · replace h := h.2 g
    refine zf_ld (pc' := 9) (v := .inl v2) dX8_says_8 rfl (fun _ _ _ => rfl) rfl rfl rfl ?_
    refine zf_if_lt (tgt := 18) (pc' := 12) dX8_says_9 rfl rfl (fun g => ?_) (fun g => ?_)
    · replace h := h.1 g
      refine zf_ld (pc' := 19) (v := .inr (.inr (1, 63))) dX8_says_18 rfl (fun _ _ _ => rfl) rfl rfl rfl ?_
      refine zf_ic (v := (-1)) (pc' := 20) dX8_says_19 rfl rfl ?_
      refine zf_iv (k := 125) (pc' := 23) (r := []) dX8_says_20 rfl rfl rfl rfl (by decide) rfl rfl rfl (zr_125 (by omega) h) (zf_kI (fun x5 m6 h => ?_))
      exact zf_ri dX8_says_23 rfl h
    · replace h := h.2 g
      refine zf_ld (pc' := 13) (v := .inl v2) dX8_says_12 rfl (fun _ _ _ => rfl) rfl rfl rfl ?_
      refine zf_bi (v := 6) (pc' := 15) dX8_says_13 rfl rfl ?_
      refine zf_icmp_le (tgt := 24) (pc' := 18) dX8_says_15 rfl rfl (fun g => ?_) (fun g => ?_)
      · replace h := h.1 g
        refine zf_ld (pc' := 25) (v := .inr (.inr (1, 63))) dX8_says_24 rfl (fun _ _ _ => rfl) rfl rfl rfl ?_
        refine zf_gfr (pc' := 28) (b := 70) dX8_says_25 rfl rfl (by decide) rfl rfl ?_
        refine zf_ld (pc' := 29) (v := .inl v1) dX8_says_28 rfl (fun _ _ _ => rfl) rfl rfl rfl ?_
        refine zf_ial (pc' := 30) dX8_says_29 rfl (⟨by decide, rfl⟩ : zf_arr 70 8).1 (⟨by decide, rfl⟩ : zf_arr 70 8).2 h.1 rfl ?_
        replace h := h.2
        refine zf_ic (v := 1) (pc' := 31) dX8_says_30 rfl rfl ?_
        refine zf_icmp_ne (tgt := 41) (pc' := 34) dX8_says_31 rfl rfl (fun g => ?_) (fun g => ?_)
        · replace h := h.1 g
          refine zf_ld (pc' := 42) (v := .inr (.inr (1, 63))) dX8_says_41 rfl (fun _ _ _ => rfl) rfl rfl rfl ?_
          refine zf_gfr (pc' := 45) (b := 70) dX8_says_42 rfl rfl (by decide) rfl rfl ?_
          refine zf_ld (pc' := 46) (v := .inl v1) dX8_says_45 rfl (fun _ _ _ => rfl) rfl rfl rfl ?_
          refine zf_ial (pc' := 47) dX8_says_46 rfl (⟨by decide, rfl⟩ : zf_arr 70 8).1 (⟨by decide, rfl⟩ : zf_arr 70 8).2 h.1 rfl ?_
          replace h := h.2
          refine zf_if_ne (tgt := 57) (pc' := 50) dX8_says_47 rfl rfl (fun g => ?_) (fun g => ?_)
          · replace h := h.1 g
            refine zf_ld (pc' := 58) (v := .inr (.inr (1, 63))) dX8_says_57 rfl (fun _ _ _ => rfl) rfl rfl rfl ?_
            refine zf_gfr (pc' := 61) (b := 73) dX8_says_58 rfl rfl (by decide) rfl rfl ?_
            refine zf_ld (pc' := 62) (v := .inl v1) dX8_says_61 rfl (fun _ _ _ => rfl) rfl rfl rfl ?_
            refine zf_ial (pc' := 63) dX8_says_62 rfl (⟨by decide, rfl⟩ : zf_arr 73 8).1 (⟨by decide, rfl⟩ : zf_arr 73 8).2 h.1 rfl ?_
            replace h := h.2
            refine zf_st (pc' := 64) (L2 := [some (.inr (.inr (1, 63))), some (.inl v1), some (.inl v2), some (.inl (m2.1 73 (Int32.toInt v1).toNat)), none, none]) dX8_says_63 rfl (fun _ _ _ => rfl) rfl rfl rfl rfl rfl rfl ?_
            refine zf_ld (pc' := 65) (v := .inr (.inr (1, 63))) dX8_says_64 rfl (fun _ _ _ => rfl) rfl rfl rfl ?_
            refine zf_gfr (pc' := 68) (b := 67) dX8_says_65 rfl rfl (by decide) rfl rfl ?_
            refine zf_ld (pc' := 69) (v := .inl (m2.1 73 (Int32.toInt v1).toNat)) dX8_says_68 rfl (fun _ _ _ => rfl) rfl rfl rfl ?_
            refine zf_ial (pc' := 70) dX8_says_69 rfl (⟨by decide, rfl⟩ : zf_arr 67 6).1 (⟨by decide, rfl⟩ : zf_arr 67 6).2 h.1 rfl ?_
            replace h := h.2
            refine zf_st (pc' := 72) (L2 := [some (.inr (.inr (1, 63))), some (.inl v1), some (.inl v2), some (.inl (m2.1 73 (Int32.toInt v1).toNat)), some (.inl (m2.1 67 (Int32.toInt (m2.1 73 (Int32.toInt v1).toNat)).toNat)), none]) dX8_says_70 rfl (fun _ _ _ => rfl) rfl rfl rfl rfl rfl rfl ?_
            refine zf_ld (pc' := 73) (v := .inl v2) dX8_says_72 rfl (fun _ _ _ => rfl) rfl rfl rfl ?_
            refine zf_ic (v := 1) (pc' := 74) dX8_says_73 rfl rfl ?_
            refine zf_icmp_ne (tgt := 83) (pc' := 77) dX8_says_74 rfl rfl (fun g => ?_) (fun g => ?_)
            · replace h := h.1 g
              exact zf_lo (zq_136_83 (by omega) h) ⟨rfl, rfl, rfl, rfl, trivial⟩
            · replace h := h.2 g
              refine zf_ld (pc' := 79) (v := .inl (m2.1 67 (Int32.toInt (m2.1 73 (Int32.toInt v1).toNat)).toNat)) dX8_says_77 rfl (fun _ _ _ => rfl) rfl rfl rfl ?_
              refine zf_ic (v := 3) (pc' := 80) dX8_says_79 rfl rfl ?_
              refine zf_icmp_eq (tgt := 106) (pc' := 83) dX8_says_80 rfl rfl (fun g => ?_) (fun g => ?_)
              · replace h := h.1 g
                exact zf_lo (zq_136_106 (by omega) h) ⟨rfl, rfl, rfl, rfl, trivial⟩
              · replace h := h.2 g
                exact zf_lo (zq_136_83 (by omega) h) ⟨rfl, rfl, rfl, rfl, trivial⟩
          · replace h := h.2 g
            refine zf_ld (pc' := 51) (v := .inr (.inr (1, 63))) dX8_says_50 rfl (fun _ _ _ => rfl) rfl rfl rfl ?_
            refine zf_bi (v := (-3)) (pc' := 53) dX8_says_51 rfl rfl ?_
            refine zf_iv (k := 125) (pc' := 56) (r := []) dX8_says_53 rfl rfl rfl rfl (by decide) rfl rfl rfl (zr_125 (by omega) h) (zf_kI (fun x17 m18 h => ?_))
            exact zf_ri dX8_says_56 rfl h
        · replace h := h.2 g
          refine zf_ld (pc' := 35) (v := .inr (.inr (1, 63))) dX8_says_34 rfl (fun _ _ _ => rfl) rfl rfl rfl ?_
          refine zf_bi (v := (-2)) (pc' := 37) dX8_says_35 rfl rfl ?_
          refine zf_iv (k := 125) (pc' := 40) (r := []) dX8_says_37 rfl rfl rfl rfl (by decide) rfl rfl rfl (zr_125 (by omega) h) (zf_kI (fun x19 m20 h => ?_))
          exact zf_ri dX8_says_40 rfl h
      · replace h := h.2 g
        refine zf_ld (pc' := 19) (v := .inr (.inr (1, 63))) dX8_says_18 rfl (fun _ _ _ => rfl) rfl rfl rfl ?_
        refine zf_ic (v := (-1)) (pc' := 20) dX8_says_19 rfl rfl ?_
        refine zf_iv (k := 125) (pc' := 23) (r := []) dX8_says_20 rfl rfl rfl rfl (by decide) rfl rfl rfl (zr_125 (by omega) h) (zf_kI (fun x21 m22 h => ?_))
        exact zf_ri dX8_says_23 rfl h
def zt_137 : zx_MT := (8, yX8_wanted, cX8_wanted, 2, (some FieldType.int), 1, 0)
theorem zm_137 : zx_m 137 = zt_137 := rfl
theorem dX8_wanted_r0 : zdcP cX8_wanted 0 [(.aload_n 0, 1), (.iload_n 1, 1), (.invokevirtual 111, 3), (.ifCond .ne 7, 3), (.iconst (-1), 1), (.goto 33, 3), (.aload_n 0, 1), (.getfield 56, 3), (.iload_n 1, 1), (.iaload, 1), (.iconst 2, 1), (.if_icmp .ne 8, 3), (.bipush (-2), 2), (.goto 18, 3), (.aload_n 0, 1), (.getfield 56, 3)] := zdcA_ok (by decide +kernel)
theorem dX8_wanted_0 : decode cX8_wanted 0 = .ok (.aload_n 0, 1) := dX8_wanted_r0.1
theorem dX8_wanted_1 : decode cX8_wanted 1 = .ok (.iload_n 1, 1) := dX8_wanted_r0.2.1
theorem dX8_wanted_2 : decode cX8_wanted 2 = .ok (.invokevirtual 111, 3) := dX8_wanted_r0.2.2.1
theorem dX8_wanted_5 : decode cX8_wanted 5 = .ok (.ifCond .ne 7, 3) := dX8_wanted_r0.2.2.2.1
theorem dX8_wanted_8 : decode cX8_wanted 8 = .ok (.iconst (-1), 1) := dX8_wanted_r0.2.2.2.2.1
theorem dX8_wanted_9 : decode cX8_wanted 9 = .ok (.goto 33, 3) := dX8_wanted_r0.2.2.2.2.2.1
theorem dX8_wanted_12 : decode cX8_wanted 12 = .ok (.aload_n 0, 1) := dX8_wanted_r0.2.2.2.2.2.2.1
theorem dX8_wanted_13 : decode cX8_wanted 13 = .ok (.getfield 56, 3) := dX8_wanted_r0.2.2.2.2.2.2.2.1
theorem dX8_wanted_16 : decode cX8_wanted 16 = .ok (.iload_n 1, 1) := dX8_wanted_r0.2.2.2.2.2.2.2.2.1
theorem dX8_wanted_17 : decode cX8_wanted 17 = .ok (.iaload, 1) := dX8_wanted_r0.2.2.2.2.2.2.2.2.2.1
theorem dX8_wanted_18 : decode cX8_wanted 18 = .ok (.iconst 2, 1) := dX8_wanted_r0.2.2.2.2.2.2.2.2.2.2.1
theorem dX8_wanted_19 : decode cX8_wanted 19 = .ok (.if_icmp .ne 8, 3) := dX8_wanted_r0.2.2.2.2.2.2.2.2.2.2.2.1
theorem dX8_wanted_22 : decode cX8_wanted 22 = .ok (.bipush (-2), 2) := dX8_wanted_r0.2.2.2.2.2.2.2.2.2.2.2.2.1
theorem dX8_wanted_24 : decode cX8_wanted 24 = .ok (.goto 18, 3) := dX8_wanted_r0.2.2.2.2.2.2.2.2.2.2.2.2.2.1
theorem dX8_wanted_27 : decode cX8_wanted 27 = .ok (.aload_n 0, 1) := dX8_wanted_r0.2.2.2.2.2.2.2.2.2.2.2.2.2.2.1
theorem dX8_wanted_28 : decode cX8_wanted 28 = .ok (.getfield 56, 3) := dX8_wanted_r0.2.2.2.2.2.2.2.2.2.2.2.2.2.2.2.1
theorem dX8_wanted_r31 : zdcP cX8_wanted 31 [(.iload_n 1, 1), (.iaload, 1), (.ifCond .ne 8, 3), (.bipush (-3), 2), (.goto 4, 3), (.iconst 0, 1), (.ireturn, 1)] := zdcA_ok (by decide +kernel)
theorem dX8_wanted_31 : decode cX8_wanted 31 = .ok (.iload_n 1, 1) := dX8_wanted_r31.1
theorem dX8_wanted_32 : decode cX8_wanted 32 = .ok (.iaload, 1) := dX8_wanted_r31.2.1
theorem dX8_wanted_33 : decode cX8_wanted 33 = .ok (.ifCond .ne 8, 3) := dX8_wanted_r31.2.2.1
theorem dX8_wanted_36 : decode cX8_wanted 36 = .ok (.bipush (-3), 2) := dX8_wanted_r31.2.2.2.1
theorem dX8_wanted_38 : decode cX8_wanted 38 = .ok (.goto 4, 3) := dX8_wanted_r31.2.2.2.2.1
theorem dX8_wanted_41 : decode cX8_wanted 41 = .ok (.iconst 0, 1) := dX8_wanted_r31.2.2.2.2.2.1
theorem dX8_wanted_42 : decode cX8_wanted 42 = .ok (.ireturn, 1) := dX8_wanted_r31.2.2.2.2.2.2.1
def wp_137 (v1 : Int32) (m : zf_Me) (Q : Int32 → zf_Me → Prop) : Prop := wp_127 v1 m (fun b1 m2 => ((b1 = true → ((0 ≤ (Int32.toInt v1) ∧ (Int32.toInt v1) < (8 : Int)) ∧ ((¬ ((m2.1 70 (Int32.toInt v1).toNat)).toInt = 2 → ((0 ≤ (Int32.toInt v1) ∧ (Int32.toInt v1) < (8 : Int)) ∧ ((¬ ((m2.1 70 (Int32.toInt v1).toNat)).toInt = 0 → Q 0 m2) ∧ (((m2.1 70 (Int32.toInt v1).toNat)).toInt = 0 → Q (-3) m2)))) ∧ (((m2.1 70 (Int32.toInt v1).toNat)).toInt = 2 → Q (-2) m2)))) ∧ (b1 = false → Q (-1) m2)))
theorem zr_137 {d : Nat} (hd : 1 ≤ d) {v1 : Int32} {Q : Int32 → zf_Me → Prop} {m : zf_Me} (h : wp_137 v1 m Q) : zf_M d 137 [.inr (.inr (1, 63)), .inl v1] m (zf_I Q) := by
  obtain ⟨e, rfl⟩ : ∃ z, d = z + 1 := ⟨d - 1, by omega⟩
  unfold wp_137 at h
  refine zf_M_of (Nat.le_of_ble_eq_true rfl) zm_137 (L := [some (.inr (.inr (1, 63))), some (.inl v1)]) rfl ?_
  refine zf_ld (pc' := 1) (v := .inr (.inr (1, 63))) dX8_wanted_0 rfl (fun _ _ _ => rfl) rfl rfl rfl ?_
  refine zf_ld (pc' := 2) (v := .inl v1) dX8_wanted_1 rfl (fun _ _ _ => rfl) rfl rfl rfl ?_
  refine zf_iv (k := 127) (pc' := 5) (r := []) dX8_wanted_2 rfl rfl rfl rfl (by decide) rfl rfl rfl (zr_127 (by omega) h) (zf_kB (fun b1 m2 h => ?_))
  refine zf_ib_ne (tgt := 12) (pc' := 8) dX8_wanted_5 rfl rfl (fun g => ?_) (fun g => ?_)
  · replace h := h.1 g
    refine zf_ld (pc' := 13) (v := .inr (.inr (1, 63))) dX8_wanted_12 rfl (fun _ _ _ => rfl) rfl rfl rfl ?_
    refine zf_gfr (pc' := 16) (b := 70) dX8_wanted_13 rfl rfl (by decide) rfl rfl ?_
    refine zf_ld (pc' := 17) (v := .inl v1) dX8_wanted_16 rfl (fun _ _ _ => rfl) rfl rfl rfl ?_
    refine zf_ial (pc' := 18) dX8_wanted_17 rfl (⟨by decide, rfl⟩ : zf_arr 70 8).1 (⟨by decide, rfl⟩ : zf_arr 70 8).2 h.1 rfl ?_
    replace h := h.2
    refine zf_ic (v := 2) (pc' := 19) dX8_wanted_18 rfl rfl ?_
    refine zf_icmp_ne (tgt := 27) (pc' := 22) dX8_wanted_19 rfl rfl (fun g => ?_) (fun g => ?_)
    · replace h := h.1 g
      refine zf_ld (pc' := 28) (v := .inr (.inr (1, 63))) dX8_wanted_27 rfl (fun _ _ _ => rfl) rfl rfl rfl ?_
      refine zf_gfr (pc' := 31) (b := 70) dX8_wanted_28 rfl rfl (by decide) rfl rfl ?_
      refine zf_ld (pc' := 32) (v := .inl v1) dX8_wanted_31 rfl (fun _ _ _ => rfl) rfl rfl rfl ?_
      refine zf_ial (pc' := 33) dX8_wanted_32 rfl (⟨by decide, rfl⟩ : zf_arr 70 8).1 (⟨by decide, rfl⟩ : zf_arr 70 8).2 h.1 rfl ?_
      replace h := h.2
      refine zf_if_ne (tgt := 41) (pc' := 36) dX8_wanted_33 rfl rfl (fun g => ?_) (fun g => ?_)
      · replace h := h.1 g
        refine zf_ic (v := 0) (pc' := 42) dX8_wanted_41 rfl rfl ?_
        exact zf_ri dX8_wanted_42 rfl h
      · replace h := h.2 g
        refine zf_bi (v := (-3)) (pc' := 38) dX8_wanted_36 rfl rfl ?_
        refine zf_goto (tgt := 42) dX8_wanted_38 rfl ?_
        exact zf_ri dX8_wanted_42 rfl h
    · replace h := h.2 g
      refine zf_bi (v := (-2)) (pc' := 24) dX8_wanted_22 rfl rfl ?_
      refine zf_goto (tgt := 42) dX8_wanted_24 rfl ?_
      exact zf_ri dX8_wanted_42 rfl h
  · replace h := h.2 g
    refine zf_ic (v := (-1)) (pc' := 9) dX8_wanted_8 rfl rfl ?_
    refine zf_goto (tgt := 42) dX8_wanted_9 rfl ?_
    exact zf_ri dX8_wanted_42 rfl h
def zt_138 : zx_MT := (8, yX8_intAt, cX8_intAt, 3, (some FieldType.int), 2, 0)
theorem zm_138 : zx_m 138 = zt_138 := rfl
theorem dX8_intAt_r0 : zdcP cX8_intAt 0 [(.aload_n 0, 1), (.getfield 68, 3), (.sipush 160, 3), (.iload_n 1, 1), (.imul, 1), (.iload_n 2, 1), (.iadd, 1), (.laload, 1), (.l2i, 1), (.ireturn, 1)] := zdcA_ok (by decide +kernel)
theorem dX8_intAt_0 : decode cX8_intAt 0 = .ok (.aload_n 0, 1) := dX8_intAt_r0.1
theorem dX8_intAt_1 : decode cX8_intAt 1 = .ok (.getfield 68, 3) := dX8_intAt_r0.2.1
theorem dX8_intAt_4 : decode cX8_intAt 4 = .ok (.sipush 160, 3) := dX8_intAt_r0.2.2.1
theorem dX8_intAt_7 : decode cX8_intAt 7 = .ok (.iload_n 1, 1) := dX8_intAt_r0.2.2.2.1
theorem dX8_intAt_8 : decode cX8_intAt 8 = .ok (.imul, 1) := dX8_intAt_r0.2.2.2.2.1
theorem dX8_intAt_9 : decode cX8_intAt 9 = .ok (.iload_n 2, 1) := dX8_intAt_r0.2.2.2.2.2.1
theorem dX8_intAt_10 : decode cX8_intAt 10 = .ok (.iadd, 1) := dX8_intAt_r0.2.2.2.2.2.2.1
theorem dX8_intAt_11 : decode cX8_intAt 11 = .ok (.laload, 1) := dX8_intAt_r0.2.2.2.2.2.2.2.1
theorem dX8_intAt_12 : decode cX8_intAt 12 = .ok (.l2i, 1) := dX8_intAt_r0.2.2.2.2.2.2.2.2.1
theorem dX8_intAt_13 : decode cX8_intAt 13 = .ok (.ireturn, 1) := dX8_intAt_r0.2.2.2.2.2.2.2.2.2.1
def wp_138 (v1 : Int32) (v2 : Int32) (m : zf_Me) (Q : Int32 → zf_Me → Prop) : Prop := ((0 ≤ (Int32.toInt ((160 * v1) + v2)) ∧ (Int32.toInt ((160 * v1) + v2)) < (1280 : Int)) ∧ Q (Int64.toInt32 (m.2 74 (Int32.toInt ((160 * v1) + v2)).toNat)) m)
theorem zr_138 {d : Nat} (hd : 0 ≤ d) {v1 : Int32} {v2 : Int32} {Q : Int32 → zf_Me → Prop} {m : zf_Me} (h : wp_138 v1 v2 m Q) : zf_M d 138 [.inr (.inr (1, 63)), .inl v1, .inl v2] m (zf_I Q) := by
  unfold wp_138 at h
  refine zf_M_of (Nat.le_of_ble_eq_true rfl) zm_138 (L := [some (.inr (.inr (1, 63))), some (.inl v1), some (.inl v2)]) rfl ?_
  refine zf_ld (pc' := 1) (v := .inr (.inr (1, 63))) dX8_intAt_0 rfl (fun _ _ _ => rfl) rfl rfl rfl ?_
  refine zf_gfr (pc' := 4) (b := 74) dX8_intAt_1 rfl rfl (by decide) rfl rfl ?_
  refine zf_si (v := 160) (pc' := 7) dX8_intAt_4 rfl rfl ?_
  refine zf_ld (pc' := 8) (v := .inl v1) dX8_intAt_7 rfl (fun _ _ _ => rfl) rfl rfl rfl ?_
  refine zf_in (pc' := 9) (S' := [.inl (160 * v1), .inr (.inr (1, 74))]) dX8_intAt_8 rfl (fun _ _ _ => rfl) ?_
  refine zf_ld (pc' := 10) (v := .inl v2) dX8_intAt_9 rfl (fun _ _ _ => rfl) rfl rfl rfl ?_
  refine zf_in (pc' := 11) (S' := [.inl ((160 * v1) + v2), .inr (.inr (1, 74))]) dX8_intAt_10 rfl (fun _ _ _ => rfl) ?_
  refine zf_lal (pc' := 12) dX8_intAt_11 rfl (⟨by decide, rfl⟩ : zf_larr 74 1280).1 (⟨by decide, rfl⟩ : zf_larr 74 1280).2 h.1 rfl ?_
  replace h := h.2
  refine zf_in (pc' := 13) (S' := [.inl (Int64.toInt32 (m.2 74 (Int32.toInt ((160 * v1) + v2)).toNat))]) dX8_intAt_12 rfl (fun _ _ _ => rfl) ?_
  exact zf_ri dX8_intAt_13 rfl h
def zt_139 : zx_MT := (8, yX8_bars, cX8_bars, 4, (some FieldType.int), 2, 0)
theorem zm_139 : zx_m 139 = zt_139 := rfl
theorem dX8_bars_r0 : zdcP cX8_bars 0 [(.aload_n 0, 1), (.iload_n 1, 1), (.invokevirtual 130, 3), (.istore_n 3, 1), (.iload_n 3, 1), (.ifCond .eq 5, 3), (.iload_n 3, 1), (.ireturn, 1), (.iload_n 2, 1), (.ifCond .ge 8, 3), (.bipush (-4), 2), (.goto 19, 3), (.iload_n 2, 1), (.aload_n 0, 1), (.getfield 62, 3), (.iload_n 1, 1)] := zdcA_ok (by decide +kernel)
theorem dX8_bars_0 : decode cX8_bars 0 = .ok (.aload_n 0, 1) := dX8_bars_r0.1
theorem dX8_bars_1 : decode cX8_bars 1 = .ok (.iload_n 1, 1) := dX8_bars_r0.2.1
theorem dX8_bars_2 : decode cX8_bars 2 = .ok (.invokevirtual 130, 3) := dX8_bars_r0.2.2.1
theorem dX8_bars_5 : decode cX8_bars 5 = .ok (.istore_n 3, 1) := dX8_bars_r0.2.2.2.1
theorem dX8_bars_6 : decode cX8_bars 6 = .ok (.iload_n 3, 1) := dX8_bars_r0.2.2.2.2.1
theorem dX8_bars_7 : decode cX8_bars 7 = .ok (.ifCond .eq 5, 3) := dX8_bars_r0.2.2.2.2.2.1
theorem dX8_bars_10 : decode cX8_bars 10 = .ok (.iload_n 3, 1) := dX8_bars_r0.2.2.2.2.2.2.1
theorem dX8_bars_11 : decode cX8_bars 11 = .ok (.ireturn, 1) := dX8_bars_r0.2.2.2.2.2.2.2.1
theorem dX8_bars_12 : decode cX8_bars 12 = .ok (.iload_n 2, 1) := dX8_bars_r0.2.2.2.2.2.2.2.2.1
theorem dX8_bars_13 : decode cX8_bars 13 = .ok (.ifCond .ge 8, 3) := dX8_bars_r0.2.2.2.2.2.2.2.2.2.1
theorem dX8_bars_16 : decode cX8_bars 16 = .ok (.bipush (-4), 2) := dX8_bars_r0.2.2.2.2.2.2.2.2.2.2.1
theorem dX8_bars_18 : decode cX8_bars 18 = .ok (.goto 19, 3) := dX8_bars_r0.2.2.2.2.2.2.2.2.2.2.2.1
theorem dX8_bars_21 : decode cX8_bars 21 = .ok (.iload_n 2, 1) := dX8_bars_r0.2.2.2.2.2.2.2.2.2.2.2.2.1
theorem dX8_bars_22 : decode cX8_bars 22 = .ok (.aload_n 0, 1) := dX8_bars_r0.2.2.2.2.2.2.2.2.2.2.2.2.2.1
theorem dX8_bars_23 : decode cX8_bars 23 = .ok (.getfield 62, 3) := dX8_bars_r0.2.2.2.2.2.2.2.2.2.2.2.2.2.2.1
theorem dX8_bars_26 : decode cX8_bars 26 = .ok (.iload_n 1, 1) := dX8_bars_r0.2.2.2.2.2.2.2.2.2.2.2.2.2.2.2.1
theorem dX8_bars_r27 : zdcP cX8_bars 27 [(.iaload, 1), (.if_icmp .le 8, 3), (.bipush (-5), 2), (.goto 4, 3), (.iconst 0, 1), (.ireturn, 1)] := zdcA_ok (by decide +kernel)
theorem dX8_bars_27 : decode cX8_bars 27 = .ok (.iaload, 1) := dX8_bars_r27.1
theorem dX8_bars_28 : decode cX8_bars 28 = .ok (.if_icmp .le 8, 3) := dX8_bars_r27.2.1
theorem dX8_bars_31 : decode cX8_bars 31 = .ok (.bipush (-5), 2) := dX8_bars_r27.2.2.1
theorem dX8_bars_33 : decode cX8_bars 33 = .ok (.goto 4, 3) := dX8_bars_r27.2.2.2.1
theorem dX8_bars_36 : decode cX8_bars 36 = .ok (.iconst 0, 1) := dX8_bars_r27.2.2.2.2.1
theorem dX8_bars_37 : decode cX8_bars 37 = .ok (.ireturn, 1) := dX8_bars_r27.2.2.2.2.2.1
def wp_139 (v1 : Int32) (v2 : Int32) (m : zf_Me) (Q : Int32 → zf_Me → Prop) : Prop := wp_137 v1 m (fun x1 m2 => ((x1.toInt = 0 → ((v2.toInt ≥ 0 → ((0 ≤ (Int32.toInt v1) ∧ (Int32.toInt v1) < (8 : Int)) ∧ ((v2.toInt ≤ ((m2.1 72 (Int32.toInt v1).toNat)).toInt → Q 0 m2) ∧ (v2.toInt > ((m2.1 72 (Int32.toInt v1).toNat)).toInt → Q (-5) m2)))) ∧ (v2.toInt < 0 → Q (-4) m2))) ∧ (¬ x1.toInt = 0 → Q x1 m2)))
theorem zr_139 {d : Nat} (hd : 2 ≤ d) {v1 : Int32} {v2 : Int32} {Q : Int32 → zf_Me → Prop} {m : zf_Me} (h : wp_139 v1 v2 m Q) : zf_M d 139 [.inr (.inr (1, 63)), .inl v1, .inl v2] m (zf_I Q) := by
  obtain ⟨e, rfl⟩ : ∃ z, d = z + 1 := ⟨d - 1, by omega⟩
  unfold wp_139 at h
  refine zf_M_of (Nat.le_of_ble_eq_true rfl) zm_139 (L := [some (.inr (.inr (1, 63))), some (.inl v1), some (.inl v2), none]) rfl ?_
  refine zf_ld (pc' := 1) (v := .inr (.inr (1, 63))) dX8_bars_0 rfl (fun _ _ _ => rfl) rfl rfl rfl ?_
  refine zf_ld (pc' := 2) (v := .inl v1) dX8_bars_1 rfl (fun _ _ _ => rfl) rfl rfl rfl ?_
  refine zf_iv (k := 137) (pc' := 5) (r := []) dX8_bars_2 rfl rfl rfl rfl (by decide) rfl rfl rfl (zr_137 (by omega) h) (zf_kI (fun x1 m2 h => ?_))
  refine zf_st (pc' := 6) (L2 := [some (.inr (.inr (1, 63))), some (.inl v1), some (.inl v2), some (.inl x1)]) dX8_bars_5 rfl (fun _ _ _ => rfl) rfl rfl rfl rfl rfl rfl ?_
  refine zf_ld (pc' := 7) (v := .inl x1) dX8_bars_6 rfl (fun _ _ _ => rfl) rfl rfl rfl ?_
  refine zf_if_eq (tgt := 12) (pc' := 10) dX8_bars_7 rfl rfl (fun g => ?_) (fun g => ?_)
  · replace h := h.1 g
    refine zf_ld (pc' := 13) (v := .inl v2) dX8_bars_12 rfl (fun _ _ _ => rfl) rfl rfl rfl ?_
    refine zf_if_ge (tgt := 21) (pc' := 16) dX8_bars_13 rfl rfl (fun g => ?_) (fun g => ?_)
    · replace h := h.1 g
      refine zf_ld (pc' := 22) (v := .inl v2) dX8_bars_21 rfl (fun _ _ _ => rfl) rfl rfl rfl ?_
      refine zf_ld (pc' := 23) (v := .inr (.inr (1, 63))) dX8_bars_22 rfl (fun _ _ _ => rfl) rfl rfl rfl ?_
      refine zf_gfr (pc' := 26) (b := 72) dX8_bars_23 rfl rfl (by decide) rfl rfl ?_
      refine zf_ld (pc' := 27) (v := .inl v1) dX8_bars_26 rfl (fun _ _ _ => rfl) rfl rfl rfl ?_
      refine zf_ial (pc' := 28) dX8_bars_27 rfl (⟨by decide, rfl⟩ : zf_arr 72 8).1 (⟨by decide, rfl⟩ : zf_arr 72 8).2 h.1 rfl ?_
      replace h := h.2
      refine zf_icmp_le (tgt := 36) (pc' := 31) dX8_bars_28 rfl rfl (fun g => ?_) (fun g => ?_)
      · replace h := h.1 g
        refine zf_ic (v := 0) (pc' := 37) dX8_bars_36 rfl rfl ?_
        exact zf_ri dX8_bars_37 rfl h
      · replace h := h.2 g
        refine zf_bi (v := (-5)) (pc' := 33) dX8_bars_31 rfl rfl ?_
        refine zf_goto (tgt := 37) dX8_bars_33 rfl ?_
        exact zf_ri dX8_bars_37 rfl h
    · replace h := h.2 g
      refine zf_bi (v := (-4)) (pc' := 18) dX8_bars_16 rfl rfl ?_
      refine zf_goto (tgt := 37) dX8_bars_18 rfl ?_
      exact zf_ri dX8_bars_37 rfl h
  · replace h := h.2 g
    refine zf_ld (pc' := 11) (v := .inl x1) dX8_bars_10 rfl (fun _ _ _ => rfl) rfl rfl rfl ?_
    exact zf_ri dX8_bars_11 rfl h
def zt_140 : zx_MT := (8, yX8_addsFurlong, cX8_addsFurlong, 3, (some FieldType.int), 2, 0)
theorem zm_140 : zx_m 140 = zt_140 := rfl
theorem dX8_addsFurlong_r0 : zdcP cX8_addsFurlong 0 [(.aload_n 0, 1), (.getfield 41, 3), (.aload_n 0, 1), (.getfield 108, 3), (.iload_n 1, 1), (.iastore, 1), (.aload_n 0, 1), (.getfield 44, 3), (.aload_n 0, 1), (.getfield 108, 3), (.iload_n 2, 1), (.iastore, 1), (.aload_n 0, 1), (.dup, 1), (.getfield 108, 3), (.dup_x1, 1)] := zdcA_ok (by decide +kernel)
theorem dX8_addsFurlong_0 : decode cX8_addsFurlong 0 = .ok (.aload_n 0, 1) := dX8_addsFurlong_r0.1
theorem dX8_addsFurlong_1 : decode cX8_addsFurlong 1 = .ok (.getfield 41, 3) := dX8_addsFurlong_r0.2.1
theorem dX8_addsFurlong_4 : decode cX8_addsFurlong 4 = .ok (.aload_n 0, 1) := dX8_addsFurlong_r0.2.2.1
theorem dX8_addsFurlong_5 : decode cX8_addsFurlong 5 = .ok (.getfield 108, 3) := dX8_addsFurlong_r0.2.2.2.1
theorem dX8_addsFurlong_8 : decode cX8_addsFurlong 8 = .ok (.iload_n 1, 1) := dX8_addsFurlong_r0.2.2.2.2.1
theorem dX8_addsFurlong_9 : decode cX8_addsFurlong 9 = .ok (.iastore, 1) := dX8_addsFurlong_r0.2.2.2.2.2.1
theorem dX8_addsFurlong_10 : decode cX8_addsFurlong 10 = .ok (.aload_n 0, 1) := dX8_addsFurlong_r0.2.2.2.2.2.2.1
theorem dX8_addsFurlong_11 : decode cX8_addsFurlong 11 = .ok (.getfield 44, 3) := dX8_addsFurlong_r0.2.2.2.2.2.2.2.1
theorem dX8_addsFurlong_14 : decode cX8_addsFurlong 14 = .ok (.aload_n 0, 1) := dX8_addsFurlong_r0.2.2.2.2.2.2.2.2.1
theorem dX8_addsFurlong_15 : decode cX8_addsFurlong 15 = .ok (.getfield 108, 3) := dX8_addsFurlong_r0.2.2.2.2.2.2.2.2.2.1
theorem dX8_addsFurlong_18 : decode cX8_addsFurlong 18 = .ok (.iload_n 2, 1) := dX8_addsFurlong_r0.2.2.2.2.2.2.2.2.2.2.1
theorem dX8_addsFurlong_19 : decode cX8_addsFurlong 19 = .ok (.iastore, 1) := dX8_addsFurlong_r0.2.2.2.2.2.2.2.2.2.2.2.1
theorem dX8_addsFurlong_20 : decode cX8_addsFurlong 20 = .ok (.aload_n 0, 1) := dX8_addsFurlong_r0.2.2.2.2.2.2.2.2.2.2.2.2.1
theorem dX8_addsFurlong_21 : decode cX8_addsFurlong 21 = .ok (.dup, 1) := dX8_addsFurlong_r0.2.2.2.2.2.2.2.2.2.2.2.2.2.1
theorem dX8_addsFurlong_22 : decode cX8_addsFurlong 22 = .ok (.getfield 108, 3) := dX8_addsFurlong_r0.2.2.2.2.2.2.2.2.2.2.2.2.2.2.1
theorem dX8_addsFurlong_25 : decode cX8_addsFurlong 25 = .ok (.dup_x1, 1) := dX8_addsFurlong_r0.2.2.2.2.2.2.2.2.2.2.2.2.2.2.2.1
theorem dX8_addsFurlong_r26 : zdcP cX8_addsFurlong 26 [(.iconst 1, 1), (.iadd, 1), (.putfield 108, 3), (.ireturn, 1)] := zdcA_ok (by decide +kernel)
theorem dX8_addsFurlong_26 : decode cX8_addsFurlong 26 = .ok (.iconst 1, 1) := dX8_addsFurlong_r26.1
theorem dX8_addsFurlong_27 : decode cX8_addsFurlong 27 = .ok (.iadd, 1) := dX8_addsFurlong_r26.2.1
theorem dX8_addsFurlong_28 : decode cX8_addsFurlong 28 = .ok (.putfield 108, 3) := dX8_addsFurlong_r26.2.2.1
theorem dX8_addsFurlong_31 : decode cX8_addsFurlong 31 = .ok (.ireturn, 1) := dX8_addsFurlong_r26.2.2.2.1
def wp_140 (v1 : Int32) (v2 : Int32) (m : zf_Me) (Q : Int32 → zf_Me → Prop) : Prop := ((0 ≤ (Int32.toInt (m.1 63 0)) ∧ (Int32.toInt (m.1 63 0)) < (24 : Int)) ∧ ∀ m1, m1 = zf_u m 65 (Int32.toInt (m.1 63 0)).toNat v1 → ((0 ≤ (Int32.toInt (m1.1 63 0)) ∧ (Int32.toInt (m1.1 63 0)) < (24 : Int)) ∧ ∀ m3, m3 = zf_u m1 66 (Int32.toInt (m1.1 63 0)).toNat v2 → (∀ m5, m5 = zf_u m3 63 0 ((m3.1 63 0) + 1) → Q (m3.1 63 0) m5)))
theorem zr_140 {d : Nat} (hd : 0 ≤ d) {v1 : Int32} {v2 : Int32} {Q : Int32 → zf_Me → Prop} {m : zf_Me} (h : wp_140 v1 v2 m Q) : zf_M d 140 [.inr (.inr (1, 63)), .inl v1, .inl v2] m (zf_I Q) := by
  unfold wp_140 at h
  refine zf_M_of (Nat.le_of_ble_eq_true rfl) zm_140 (L := [some (.inr (.inr (1, 63))), some (.inl v1), some (.inl v2)]) rfl ?_
  refine zf_ld (pc' := 1) (v := .inr (.inr (1, 63))) dX8_addsFurlong_0 rfl (fun _ _ _ => rfl) rfl rfl rfl ?_
  refine zf_gfr (pc' := 4) (b := 65) dX8_addsFurlong_1 rfl rfl (by decide) rfl rfl ?_
  refine zf_ld (pc' := 5) (v := .inr (.inr (1, 63))) dX8_addsFurlong_4 rfl (fun _ _ _ => rfl) rfl rfl rfl ?_
  refine zf_gfi (pc' := 8) dX8_addsFurlong_5 rfl rfl (by decide) rfl rfl ?_
  refine zf_ld (pc' := 9) (v := .inl v1) dX8_addsFurlong_8 rfl (fun _ _ _ => rfl) rfl rfl rfl ?_
  refine zf_ias (pc' := 10) dX8_addsFurlong_9 rfl (⟨by decide, rfl⟩ : zf_arr 65 24).1 (⟨by decide, rfl⟩ : zf_arr 65 24).2 h.1 rfl (fun m1 e2 => ?_)
  replace h := h.2 m1 e2
  refine zf_ld (pc' := 11) (v := .inr (.inr (1, 63))) dX8_addsFurlong_10 rfl (fun _ _ _ => rfl) rfl rfl rfl ?_
  refine zf_gfr (pc' := 14) (b := 66) dX8_addsFurlong_11 rfl rfl (by decide) rfl rfl ?_
  refine zf_ld (pc' := 15) (v := .inr (.inr (1, 63))) dX8_addsFurlong_14 rfl (fun _ _ _ => rfl) rfl rfl rfl ?_
  refine zf_gfi (pc' := 18) dX8_addsFurlong_15 rfl rfl (by decide) rfl rfl ?_
  refine zf_ld (pc' := 19) (v := .inl v2) dX8_addsFurlong_18 rfl (fun _ _ _ => rfl) rfl rfl rfl ?_
  refine zf_ias (pc' := 20) dX8_addsFurlong_19 rfl (⟨by decide, rfl⟩ : zf_arr 66 24).1 (⟨by decide, rfl⟩ : zf_arr 66 24).2 h.1 rfl (fun m3 e4 => ?_)
  replace h := h.2 m3 e4
  refine zf_ld (pc' := 21) (v := .inr (.inr (1, 63))) dX8_addsFurlong_20 rfl (fun _ _ _ => rfl) rfl rfl rfl ?_
  refine zf_in (pc' := 22) (S' := [.inr (.inr (1, 63)), .inr (.inr (1, 63))]) dX8_addsFurlong_21 rfl (fun _ _ _ => rfl) ?_
  refine zf_gfi (pc' := 25) dX8_addsFurlong_22 rfl rfl (by decide) rfl rfl ?_
  refine zf_in (pc' := 26) (S' := [.inl (m3.1 63 0), .inr (.inr (1, 63)), .inl (m3.1 63 0)]) dX8_addsFurlong_25 rfl (fun _ _ _ => rfl) ?_
  refine zf_ic (v := 1) (pc' := 27) dX8_addsFurlong_26 rfl rfl ?_
  refine zf_in (pc' := 28) (S' := [.inl ((m3.1 63 0) + 1), .inr (.inr (1, 63)), .inl (m3.1 63 0)]) dX8_addsFurlong_27 rfl (fun _ _ _ => rfl) ?_
  refine zf_pf (pc' := 31) dX8_addsFurlong_28 rfl rfl (by decide) rfl rfl rfl (fun m5 e6 => ?_)
  replace h := h m5 e6
  exact zf_ri dX8_addsFurlong_31 rfl h
def zt_141 : zx_MT := (8, yX8_addsPerson, cX8_addsPerson, 3, (some FieldType.int), 2, 0)
theorem zm_141 : zx_m 141 = zt_141 := rfl
theorem dX8_addsPerson_r0 : zdcP cX8_addsPerson 0 [(.aload_n 0, 1), (.getfield 47, 3), (.aload_n 0, 1), (.getfield 105, 3), (.iload_n 1, 1), (.iastore, 1), (.aload_n 0, 1), (.getfield 50, 3), (.aload_n 0, 1), (.getfield 105, 3), (.iload_n 2, 1), (.iastore, 1), (.aload_n 0, 1), (.getfield 53, 3), (.aload_n 0, 1), (.getfield 105, 3)] := zdcA_ok (by decide +kernel)
theorem dX8_addsPerson_0 : decode cX8_addsPerson 0 = .ok (.aload_n 0, 1) := dX8_addsPerson_r0.1
theorem dX8_addsPerson_1 : decode cX8_addsPerson 1 = .ok (.getfield 47, 3) := dX8_addsPerson_r0.2.1
theorem dX8_addsPerson_4 : decode cX8_addsPerson 4 = .ok (.aload_n 0, 1) := dX8_addsPerson_r0.2.2.1
theorem dX8_addsPerson_5 : decode cX8_addsPerson 5 = .ok (.getfield 105, 3) := dX8_addsPerson_r0.2.2.2.1
theorem dX8_addsPerson_8 : decode cX8_addsPerson 8 = .ok (.iload_n 1, 1) := dX8_addsPerson_r0.2.2.2.2.1
theorem dX8_addsPerson_9 : decode cX8_addsPerson 9 = .ok (.iastore, 1) := dX8_addsPerson_r0.2.2.2.2.2.1
theorem dX8_addsPerson_10 : decode cX8_addsPerson 10 = .ok (.aload_n 0, 1) := dX8_addsPerson_r0.2.2.2.2.2.2.1
theorem dX8_addsPerson_11 : decode cX8_addsPerson 11 = .ok (.getfield 50, 3) := dX8_addsPerson_r0.2.2.2.2.2.2.2.1
theorem dX8_addsPerson_14 : decode cX8_addsPerson 14 = .ok (.aload_n 0, 1) := dX8_addsPerson_r0.2.2.2.2.2.2.2.2.1
theorem dX8_addsPerson_15 : decode cX8_addsPerson 15 = .ok (.getfield 105, 3) := dX8_addsPerson_r0.2.2.2.2.2.2.2.2.2.1
theorem dX8_addsPerson_18 : decode cX8_addsPerson 18 = .ok (.iload_n 2, 1) := dX8_addsPerson_r0.2.2.2.2.2.2.2.2.2.2.1
theorem dX8_addsPerson_19 : decode cX8_addsPerson 19 = .ok (.iastore, 1) := dX8_addsPerson_r0.2.2.2.2.2.2.2.2.2.2.2.1
theorem dX8_addsPerson_20 : decode cX8_addsPerson 20 = .ok (.aload_n 0, 1) := dX8_addsPerson_r0.2.2.2.2.2.2.2.2.2.2.2.2.1
theorem dX8_addsPerson_21 : decode cX8_addsPerson 21 = .ok (.getfield 53, 3) := dX8_addsPerson_r0.2.2.2.2.2.2.2.2.2.2.2.2.2.1
theorem dX8_addsPerson_24 : decode cX8_addsPerson 24 = .ok (.aload_n 0, 1) := dX8_addsPerson_r0.2.2.2.2.2.2.2.2.2.2.2.2.2.2.1
theorem dX8_addsPerson_25 : decode cX8_addsPerson 25 = .ok (.getfield 105, 3) := dX8_addsPerson_r0.2.2.2.2.2.2.2.2.2.2.2.2.2.2.2.1
theorem dX8_addsPerson_r28 : zdcP cX8_addsPerson 28 [(.iconst 0, 1), (.iastore, 1), (.aload_n 0, 1), (.dup, 1), (.getfield 105, 3), (.dup_x1, 1), (.iconst 1, 1), (.iadd, 1), (.putfield 105, 3), (.ireturn, 1)] := zdcA_ok (by decide +kernel)
theorem dX8_addsPerson_28 : decode cX8_addsPerson 28 = .ok (.iconst 0, 1) := dX8_addsPerson_r28.1
theorem dX8_addsPerson_29 : decode cX8_addsPerson 29 = .ok (.iastore, 1) := dX8_addsPerson_r28.2.1
theorem dX8_addsPerson_30 : decode cX8_addsPerson 30 = .ok (.aload_n 0, 1) := dX8_addsPerson_r28.2.2.1
theorem dX8_addsPerson_31 : decode cX8_addsPerson 31 = .ok (.dup, 1) := dX8_addsPerson_r28.2.2.2.1
theorem dX8_addsPerson_32 : decode cX8_addsPerson 32 = .ok (.getfield 105, 3) := dX8_addsPerson_r28.2.2.2.2.1
theorem dX8_addsPerson_35 : decode cX8_addsPerson 35 = .ok (.dup_x1, 1) := dX8_addsPerson_r28.2.2.2.2.2.1
theorem dX8_addsPerson_36 : decode cX8_addsPerson 36 = .ok (.iconst 1, 1) := dX8_addsPerson_r28.2.2.2.2.2.2.1
theorem dX8_addsPerson_37 : decode cX8_addsPerson 37 = .ok (.iadd, 1) := dX8_addsPerson_r28.2.2.2.2.2.2.2.1
theorem dX8_addsPerson_38 : decode cX8_addsPerson 38 = .ok (.putfield 105, 3) := dX8_addsPerson_r28.2.2.2.2.2.2.2.2.1
theorem dX8_addsPerson_41 : decode cX8_addsPerson 41 = .ok (.ireturn, 1) := dX8_addsPerson_r28.2.2.2.2.2.2.2.2.2.1
def wp_141 (v1 : Int32) (v2 : Int32) (m : zf_Me) (Q : Int32 → zf_Me → Prop) : Prop := ((0 ≤ (Int32.toInt (m.1 63 1)) ∧ (Int32.toInt (m.1 63 1)) < (6 : Int)) ∧ ∀ m1, m1 = zf_u m 67 (Int32.toInt (m.1 63 1)).toNat v1 → ((0 ≤ (Int32.toInt (m1.1 63 1)) ∧ (Int32.toInt (m1.1 63 1)) < (6 : Int)) ∧ ∀ m3, m3 = zf_u m1 68 (Int32.toInt (m1.1 63 1)).toNat v2 → ((0 ≤ (Int32.toInt (m3.1 63 1)) ∧ (Int32.toInt (m3.1 63 1)) < (6 : Int)) ∧ ∀ m5, m5 = zf_u m3 69 (Int32.toInt (m3.1 63 1)).toNat 0 → (∀ m7, m7 = zf_u m5 63 1 ((m5.1 63 1) + 1) → Q (m5.1 63 1) m7))))
theorem zr_141 {d : Nat} (hd : 0 ≤ d) {v1 : Int32} {v2 : Int32} {Q : Int32 → zf_Me → Prop} {m : zf_Me} (h : wp_141 v1 v2 m Q) : zf_M d 141 [.inr (.inr (1, 63)), .inl v1, .inl v2] m (zf_I Q) := by
  unfold wp_141 at h
  refine zf_M_of (Nat.le_of_ble_eq_true rfl) zm_141 (L := [some (.inr (.inr (1, 63))), some (.inl v1), some (.inl v2)]) rfl ?_
  refine zf_ld (pc' := 1) (v := .inr (.inr (1, 63))) dX8_addsPerson_0 rfl (fun _ _ _ => rfl) rfl rfl rfl ?_
  refine zf_gfr (pc' := 4) (b := 67) dX8_addsPerson_1 rfl rfl (by decide) rfl rfl ?_
  refine zf_ld (pc' := 5) (v := .inr (.inr (1, 63))) dX8_addsPerson_4 rfl (fun _ _ _ => rfl) rfl rfl rfl ?_
  refine zf_gfi (pc' := 8) dX8_addsPerson_5 rfl rfl (by decide) rfl rfl ?_
  refine zf_ld (pc' := 9) (v := .inl v1) dX8_addsPerson_8 rfl (fun _ _ _ => rfl) rfl rfl rfl ?_
  refine zf_ias (pc' := 10) dX8_addsPerson_9 rfl (⟨by decide, rfl⟩ : zf_arr 67 6).1 (⟨by decide, rfl⟩ : zf_arr 67 6).2 h.1 rfl (fun m1 e2 => ?_)
  replace h := h.2 m1 e2
  refine zf_ld (pc' := 11) (v := .inr (.inr (1, 63))) dX8_addsPerson_10 rfl (fun _ _ _ => rfl) rfl rfl rfl ?_
  refine zf_gfr (pc' := 14) (b := 68) dX8_addsPerson_11 rfl rfl (by decide) rfl rfl ?_
  refine zf_ld (pc' := 15) (v := .inr (.inr (1, 63))) dX8_addsPerson_14 rfl (fun _ _ _ => rfl) rfl rfl rfl ?_
  refine zf_gfi (pc' := 18) dX8_addsPerson_15 rfl rfl (by decide) rfl rfl ?_
  refine zf_ld (pc' := 19) (v := .inl v2) dX8_addsPerson_18 rfl (fun _ _ _ => rfl) rfl rfl rfl ?_
  refine zf_ias (pc' := 20) dX8_addsPerson_19 rfl (⟨by decide, rfl⟩ : zf_arr 68 6).1 (⟨by decide, rfl⟩ : zf_arr 68 6).2 h.1 rfl (fun m3 e4 => ?_)
  replace h := h.2 m3 e4
  refine zf_ld (pc' := 21) (v := .inr (.inr (1, 63))) dX8_addsPerson_20 rfl (fun _ _ _ => rfl) rfl rfl rfl ?_
  refine zf_gfr (pc' := 24) (b := 69) dX8_addsPerson_21 rfl rfl (by decide) rfl rfl ?_
  refine zf_ld (pc' := 25) (v := .inr (.inr (1, 63))) dX8_addsPerson_24 rfl (fun _ _ _ => rfl) rfl rfl rfl ?_
  refine zf_gfi (pc' := 28) dX8_addsPerson_25 rfl rfl (by decide) rfl rfl ?_
  refine zf_ic (v := 0) (pc' := 29) dX8_addsPerson_28 rfl rfl ?_
  refine zf_ias (pc' := 30) dX8_addsPerson_29 rfl (⟨by decide, rfl⟩ : zf_arr 69 6).1 (⟨by decide, rfl⟩ : zf_arr 69 6).2 h.1 rfl (fun m5 e6 => ?_)
  replace h := h.2 m5 e6
  refine zf_ld (pc' := 31) (v := .inr (.inr (1, 63))) dX8_addsPerson_30 rfl (fun _ _ _ => rfl) rfl rfl rfl ?_
  refine zf_in (pc' := 32) (S' := [.inr (.inr (1, 63)), .inr (.inr (1, 63))]) dX8_addsPerson_31 rfl (fun _ _ _ => rfl) ?_
  refine zf_gfi (pc' := 35) dX8_addsPerson_32 rfl rfl (by decide) rfl rfl ?_
  refine zf_in (pc' := 36) (S' := [.inl (m5.1 63 1), .inr (.inr (1, 63)), .inl (m5.1 63 1)]) dX8_addsPerson_35 rfl (fun _ _ _ => rfl) ?_
  refine zf_ic (v := 1) (pc' := 37) dX8_addsPerson_36 rfl rfl ?_
  refine zf_in (pc' := 38) (S' := [.inl ((m5.1 63 1) + 1), .inr (.inr (1, 63)), .inl (m5.1 63 1)]) dX8_addsPerson_37 rfl (fun _ _ _ => rfl) ?_
  refine zf_pf (pc' := 41) dX8_addsPerson_38 rfl rfl (by decide) rfl rfl rfl (fun m7 e8 => ?_)
  replace h := h m7 e8
  exact zf_ri dX8_addsPerson_41 rfl h
def zt_142 : zx_MT := (8, yX8_furlong, cX8_furlong, 3, (some FieldType.int), 2, 0)
theorem zm_142 : zx_m 142 = zt_142 := rfl
theorem dX8_furlong_r0 : zdcP cX8_furlong 0 [(.iload_n 1, 1), (.bipush (-3), 2), (.if_icmp .lt 8, 3), (.iload_n 1, 1), (.iconst 3, 1), (.if_icmp .le 10, 3), (.aload_n 0, 1), (.bipush (-6), 2), (.invokevirtual 115, 3), (.ireturn, 1), (.aload_n 0, 1), (.getfield 108, 3), (.bipush 24, 2), (.if_icmp .ne 12, 3), (.aload_n 0, 1), (.bipush (-7), 2)] := zdcA_ok (by decide +kernel)
theorem dX8_furlong_0 : decode cX8_furlong 0 = .ok (.iload_n 1, 1) := dX8_furlong_r0.1
theorem dX8_furlong_1 : decode cX8_furlong 1 = .ok (.bipush (-3), 2) := dX8_furlong_r0.2.1
theorem dX8_furlong_3 : decode cX8_furlong 3 = .ok (.if_icmp .lt 8, 3) := dX8_furlong_r0.2.2.1
theorem dX8_furlong_6 : decode cX8_furlong 6 = .ok (.iload_n 1, 1) := dX8_furlong_r0.2.2.2.1
theorem dX8_furlong_7 : decode cX8_furlong 7 = .ok (.iconst 3, 1) := dX8_furlong_r0.2.2.2.2.1
theorem dX8_furlong_8 : decode cX8_furlong 8 = .ok (.if_icmp .le 10, 3) := dX8_furlong_r0.2.2.2.2.2.1
theorem dX8_furlong_11 : decode cX8_furlong 11 = .ok (.aload_n 0, 1) := dX8_furlong_r0.2.2.2.2.2.2.1
theorem dX8_furlong_12 : decode cX8_furlong 12 = .ok (.bipush (-6), 2) := dX8_furlong_r0.2.2.2.2.2.2.2.1
theorem dX8_furlong_14 : decode cX8_furlong 14 = .ok (.invokevirtual 115, 3) := dX8_furlong_r0.2.2.2.2.2.2.2.2.1
theorem dX8_furlong_17 : decode cX8_furlong 17 = .ok (.ireturn, 1) := dX8_furlong_r0.2.2.2.2.2.2.2.2.2.1
theorem dX8_furlong_18 : decode cX8_furlong 18 = .ok (.aload_n 0, 1) := dX8_furlong_r0.2.2.2.2.2.2.2.2.2.2.1
theorem dX8_furlong_19 : decode cX8_furlong 19 = .ok (.getfield 108, 3) := dX8_furlong_r0.2.2.2.2.2.2.2.2.2.2.2.1
theorem dX8_furlong_22 : decode cX8_furlong 22 = .ok (.bipush 24, 2) := dX8_furlong_r0.2.2.2.2.2.2.2.2.2.2.2.2.1
theorem dX8_furlong_24 : decode cX8_furlong 24 = .ok (.if_icmp .ne 12, 3) := dX8_furlong_r0.2.2.2.2.2.2.2.2.2.2.2.2.2.1
theorem dX8_furlong_27 : decode cX8_furlong 27 = .ok (.aload_n 0, 1) := dX8_furlong_r0.2.2.2.2.2.2.2.2.2.2.2.2.2.2.1
theorem dX8_furlong_28 : decode cX8_furlong 28 = .ok (.bipush (-7), 2) := dX8_furlong_r0.2.2.2.2.2.2.2.2.2.2.2.2.2.2.2.1
theorem dX8_furlong_r30 : zdcP cX8_furlong 30 [(.invokevirtual 115, 3), (.goto 17, 3), (.aload_n 0, 1), (.iload_n 1, 1), (.iload_n 2, 1), (.ifCond .eq 7, 3), (.iconst 1, 1), (.goto 4, 3), (.iconst 0, 1), (.invokevirtual 133, 3), (.ireturn, 1)] := zdcA_ok (by decide +kernel)
theorem dX8_furlong_30 : decode cX8_furlong 30 = .ok (.invokevirtual 115, 3) := dX8_furlong_r30.1
theorem dX8_furlong_33 : decode cX8_furlong 33 = .ok (.goto 17, 3) := dX8_furlong_r30.2.1
theorem dX8_furlong_36 : decode cX8_furlong 36 = .ok (.aload_n 0, 1) := dX8_furlong_r30.2.2.1
theorem dX8_furlong_37 : decode cX8_furlong 37 = .ok (.iload_n 1, 1) := dX8_furlong_r30.2.2.2.1
theorem dX8_furlong_38 : decode cX8_furlong 38 = .ok (.iload_n 2, 1) := dX8_furlong_r30.2.2.2.2.1
theorem dX8_furlong_39 : decode cX8_furlong 39 = .ok (.ifCond .eq 7, 3) := dX8_furlong_r30.2.2.2.2.2.1
theorem dX8_furlong_42 : decode cX8_furlong 42 = .ok (.iconst 1, 1) := dX8_furlong_r30.2.2.2.2.2.2.1
theorem dX8_furlong_43 : decode cX8_furlong 43 = .ok (.goto 4, 3) := dX8_furlong_r30.2.2.2.2.2.2.2.1
theorem dX8_furlong_46 : decode cX8_furlong 46 = .ok (.iconst 0, 1) := dX8_furlong_r30.2.2.2.2.2.2.2.2.1
theorem dX8_furlong_47 : decode cX8_furlong 47 = .ok (.invokevirtual 133, 3) := dX8_furlong_r30.2.2.2.2.2.2.2.2.2.1
theorem dX8_furlong_50 : decode cX8_furlong 50 = .ok (.ireturn, 1) := dX8_furlong_r30.2.2.2.2.2.2.2.2.2.2.1
def wp_142 (v1 : Int32) (v2 : Int32) (m : zf_Me) (Q : Int32 → zf_Me → Prop) : Prop := ((v1.toInt < (-3) → wp_125 (-6) m (fun x1 m2 => Q x1 m2)) ∧ (v1.toInt ≥ (-3) → ((v1.toInt ≤ 3 → ((¬ ((m.1 63 0)).toInt = 24 → ((v2.toInt = 0 → wp_140 v1 0 m (fun x3 m4 => Q x3 m4)) ∧ (¬ v2.toInt = 0 → wp_140 v1 1 m (fun x5 m6 => Q x5 m6)))) ∧ (((m.1 63 0)).toInt = 24 → wp_125 (-7) m (fun x7 m8 => Q x7 m8)))) ∧ (v1.toInt > 3 → wp_125 (-6) m (fun x9 m10 => Q x9 m10)))))
theorem zr_142 {d : Nat} (hd : 1 ≤ d) {v1 : Int32} {v2 : Int32} {Q : Int32 → zf_Me → Prop} {m : zf_Me} (h : wp_142 v1 v2 m Q) : zf_M d 142 [.inr (.inr (1, 63)), .inl v1, .inl v2] m (zf_I Q) := by
  obtain ⟨e, rfl⟩ : ∃ z, d = z + 1 := ⟨d - 1, by omega⟩
  unfold wp_142 at h
  refine zf_M_of (Nat.le_of_ble_eq_true rfl) zm_142 (L := [some (.inr (.inr (1, 63))), some (.inl v1), some (.inl v2)]) rfl ?_
  refine zf_ld (pc' := 1) (v := .inl v1) dX8_furlong_0 rfl (fun _ _ _ => rfl) rfl rfl rfl ?_
  refine zf_bi (v := (-3)) (pc' := 3) dX8_furlong_1 rfl rfl ?_
  refine zf_icmp_lt (tgt := 11) (pc' := 6) dX8_furlong_3 rfl rfl (fun g => ?_) (fun g => ?_)
  · replace h := h.1 g
    refine zf_ld (pc' := 12) (v := .inr (.inr (1, 63))) dX8_furlong_11 rfl (fun _ _ _ => rfl) rfl rfl rfl ?_
    refine zf_bi (v := (-6)) (pc' := 14) dX8_furlong_12 rfl rfl ?_
    refine zf_iv (k := 125) (pc' := 17) (r := []) dX8_furlong_14 rfl rfl rfl rfl (by decide) rfl rfl rfl (zr_125 (by omega) h) (zf_kI (fun x1 m2 h => ?_))
    exact zf_ri dX8_furlong_17 rfl h
  · replace h := h.2 g
    refine zf_ld (pc' := 7) (v := .inl v1) dX8_furlong_6 rfl (fun _ _ _ => rfl) rfl rfl rfl ?_
    refine zf_ic (v := 3) (pc' := 8) dX8_furlong_7 rfl rfl ?_
    refine zf_icmp_le (tgt := 18) (pc' := 11) dX8_furlong_8 rfl rfl (fun g => ?_) (fun g => ?_)
    · replace h := h.1 g
      refine zf_ld (pc' := 19) (v := .inr (.inr (1, 63))) dX8_furlong_18 rfl (fun _ _ _ => rfl) rfl rfl rfl ?_
      refine zf_gfi (pc' := 22) dX8_furlong_19 rfl rfl (by decide) rfl rfl ?_
      refine zf_bi (v := 24) (pc' := 24) dX8_furlong_22 rfl rfl ?_
      refine zf_icmp_ne (tgt := 36) (pc' := 27) dX8_furlong_24 rfl rfl (fun g => ?_) (fun g => ?_)
      · replace h := h.1 g
        refine zf_ld (pc' := 37) (v := .inr (.inr (1, 63))) dX8_furlong_36 rfl (fun _ _ _ => rfl) rfl rfl rfl ?_
        refine zf_ld (pc' := 38) (v := .inl v1) dX8_furlong_37 rfl (fun _ _ _ => rfl) rfl rfl rfl ?_
        refine zf_ld (pc' := 39) (v := .inl v2) dX8_furlong_38 rfl (fun _ _ _ => rfl) rfl rfl rfl ?_
        refine zf_if_eq (tgt := 46) (pc' := 42) dX8_furlong_39 rfl rfl (fun g => ?_) (fun g => ?_)
        · replace h := h.1 g
          refine zf_ic (v := 0) (pc' := 47) dX8_furlong_46 rfl rfl ?_
          refine zf_iv (k := 140) (pc' := 50) (r := []) dX8_furlong_47 rfl rfl rfl rfl (by decide) rfl rfl rfl (zr_140 (by omega) h) (zf_kI (fun x3 m4 h => ?_))
          exact zf_ri dX8_furlong_50 rfl h
        · replace h := h.2 g
          refine zf_ic (v := 1) (pc' := 43) dX8_furlong_42 rfl rfl ?_
          refine zf_goto (tgt := 47) dX8_furlong_43 rfl ?_
          refine zf_iv (k := 140) (pc' := 50) (r := []) dX8_furlong_47 rfl rfl rfl rfl (by decide) rfl rfl rfl (zr_140 (by omega) h) (zf_kI (fun x5 m6 h => ?_))
          exact zf_ri dX8_furlong_50 rfl h
      · replace h := h.2 g
        refine zf_ld (pc' := 28) (v := .inr (.inr (1, 63))) dX8_furlong_27 rfl (fun _ _ _ => rfl) rfl rfl rfl ?_
        refine zf_bi (v := (-7)) (pc' := 30) dX8_furlong_28 rfl rfl ?_
        refine zf_iv (k := 125) (pc' := 33) (r := []) dX8_furlong_30 rfl rfl rfl rfl (by decide) rfl rfl rfl (zr_125 (by omega) h) (zf_kI (fun x7 m8 h => ?_))
        refine zf_goto (tgt := 50) dX8_furlong_33 rfl ?_
        exact zf_ri dX8_furlong_50 rfl h
    · replace h := h.2 g
      refine zf_ld (pc' := 12) (v := .inr (.inr (1, 63))) dX8_furlong_11 rfl (fun _ _ _ => rfl) rfl rfl rfl ?_
      refine zf_bi (v := (-6)) (pc' := 14) dX8_furlong_12 rfl rfl ?_
      refine zf_iv (k := 125) (pc' := 17) (r := []) dX8_furlong_14 rfl rfl rfl rfl (by decide) rfl rfl rfl (zr_125 (by omega) h) (zf_kI (fun x9 m10 h => ?_))
      exact zf_ri dX8_furlong_17 rfl h
def zt_143 : zx_MT := (8, yX8_person, cX8_person, 3, (some FieldType.int), 2, 0)
theorem zm_143 : zx_m 143 = zt_143 := rfl
theorem dX8_person_r0 : zdcP cX8_person 0 [(.iload_n 1, 1), (.ifCond .lt 9, 3), (.iload_n 1, 1), (.bipush 6, 2), (.if_icmp .le 9, 3), (.aload_n 0, 1), (.iconst (-1), 1), (.invokevirtual 115, 3), (.ireturn, 1), (.iload_n 2, 1), (.ifCond .lt 9, 3), (.iload_n 2, 1), (.bipush 9, 2), (.if_icmp .le 10, 3), (.aload_n 0, 1), (.bipush (-6), 2)] := zdcA_ok (by decide +kernel)
theorem dX8_person_0 : decode cX8_person 0 = .ok (.iload_n 1, 1) := dX8_person_r0.1
theorem dX8_person_1 : decode cX8_person 1 = .ok (.ifCond .lt 9, 3) := dX8_person_r0.2.1
theorem dX8_person_4 : decode cX8_person 4 = .ok (.iload_n 1, 1) := dX8_person_r0.2.2.1
theorem dX8_person_5 : decode cX8_person 5 = .ok (.bipush 6, 2) := dX8_person_r0.2.2.2.1
theorem dX8_person_7 : decode cX8_person 7 = .ok (.if_icmp .le 9, 3) := dX8_person_r0.2.2.2.2.1
theorem dX8_person_10 : decode cX8_person 10 = .ok (.aload_n 0, 1) := dX8_person_r0.2.2.2.2.2.1
theorem dX8_person_11 : decode cX8_person 11 = .ok (.iconst (-1), 1) := dX8_person_r0.2.2.2.2.2.2.1
theorem dX8_person_12 : decode cX8_person 12 = .ok (.invokevirtual 115, 3) := dX8_person_r0.2.2.2.2.2.2.2.1
theorem dX8_person_15 : decode cX8_person 15 = .ok (.ireturn, 1) := dX8_person_r0.2.2.2.2.2.2.2.2.1
theorem dX8_person_16 : decode cX8_person 16 = .ok (.iload_n 2, 1) := dX8_person_r0.2.2.2.2.2.2.2.2.2.1
theorem dX8_person_17 : decode cX8_person 17 = .ok (.ifCond .lt 9, 3) := dX8_person_r0.2.2.2.2.2.2.2.2.2.2.1
theorem dX8_person_20 : decode cX8_person 20 = .ok (.iload_n 2, 1) := dX8_person_r0.2.2.2.2.2.2.2.2.2.2.2.1
theorem dX8_person_21 : decode cX8_person 21 = .ok (.bipush 9, 2) := dX8_person_r0.2.2.2.2.2.2.2.2.2.2.2.2.1
theorem dX8_person_23 : decode cX8_person 23 = .ok (.if_icmp .le 10, 3) := dX8_person_r0.2.2.2.2.2.2.2.2.2.2.2.2.2.1
theorem dX8_person_26 : decode cX8_person 26 = .ok (.aload_n 0, 1) := dX8_person_r0.2.2.2.2.2.2.2.2.2.2.2.2.2.2.1
theorem dX8_person_27 : decode cX8_person 27 = .ok (.bipush (-6), 2) := dX8_person_r0.2.2.2.2.2.2.2.2.2.2.2.2.2.2.2.1
theorem dX8_person_r29 : zdcP cX8_person 29 [(.invokevirtual 115, 3), (.ireturn, 1), (.aload_n 0, 1), (.getfield 105, 3), (.bipush 6, 2), (.if_icmp .ne 12, 3), (.aload_n 0, 1), (.bipush (-7), 2), (.invokevirtual 115, 3), (.goto 9, 3), (.aload_n 0, 1), (.iload_n 1, 1), (.iload_n 2, 1), (.invokevirtual 136, 3), (.ireturn, 1)] := zdcA_ok (by decide +kernel)
theorem dX8_person_29 : decode cX8_person 29 = .ok (.invokevirtual 115, 3) := dX8_person_r29.1
theorem dX8_person_32 : decode cX8_person 32 = .ok (.ireturn, 1) := dX8_person_r29.2.1
theorem dX8_person_33 : decode cX8_person 33 = .ok (.aload_n 0, 1) := dX8_person_r29.2.2.1
theorem dX8_person_34 : decode cX8_person 34 = .ok (.getfield 105, 3) := dX8_person_r29.2.2.2.1
theorem dX8_person_37 : decode cX8_person 37 = .ok (.bipush 6, 2) := dX8_person_r29.2.2.2.2.1
theorem dX8_person_39 : decode cX8_person 39 = .ok (.if_icmp .ne 12, 3) := dX8_person_r29.2.2.2.2.2.1
theorem dX8_person_42 : decode cX8_person 42 = .ok (.aload_n 0, 1) := dX8_person_r29.2.2.2.2.2.2.1
theorem dX8_person_43 : decode cX8_person 43 = .ok (.bipush (-7), 2) := dX8_person_r29.2.2.2.2.2.2.2.1
theorem dX8_person_45 : decode cX8_person 45 = .ok (.invokevirtual 115, 3) := dX8_person_r29.2.2.2.2.2.2.2.2.1
theorem dX8_person_48 : decode cX8_person 48 = .ok (.goto 9, 3) := dX8_person_r29.2.2.2.2.2.2.2.2.2.1
theorem dX8_person_51 : decode cX8_person 51 = .ok (.aload_n 0, 1) := dX8_person_r29.2.2.2.2.2.2.2.2.2.2.1
theorem dX8_person_52 : decode cX8_person 52 = .ok (.iload_n 1, 1) := dX8_person_r29.2.2.2.2.2.2.2.2.2.2.2.1
theorem dX8_person_53 : decode cX8_person 53 = .ok (.iload_n 2, 1) := dX8_person_r29.2.2.2.2.2.2.2.2.2.2.2.2.1
theorem dX8_person_54 : decode cX8_person 54 = .ok (.invokevirtual 136, 3) := dX8_person_r29.2.2.2.2.2.2.2.2.2.2.2.2.2.1
theorem dX8_person_57 : decode cX8_person 57 = .ok (.ireturn, 1) := dX8_person_r29.2.2.2.2.2.2.2.2.2.2.2.2.2.2.1
def wp_143 (v1 : Int32) (v2 : Int32) (m : zf_Me) (Q : Int32 → zf_Me → Prop) : Prop := ((v1.toInt < 0 → wp_125 (-1) m (fun x1 m2 => Q x1 m2)) ∧ (v1.toInt ≥ 0 → ((v1.toInt ≤ 6 → ((v2.toInt < 0 → wp_125 (-6) m (fun x3 m4 => Q x3 m4)) ∧ (v2.toInt ≥ 0 → ((v2.toInt ≤ 9 → ((¬ ((m.1 63 1)).toInt = 6 → wp_141 v1 v2 m (fun x5 m6 => Q x5 m6)) ∧ (((m.1 63 1)).toInt = 6 → wp_125 (-7) m (fun x7 m8 => Q x7 m8)))) ∧ (v2.toInt > 9 → wp_125 (-6) m (fun x9 m10 => Q x9 m10)))))) ∧ (v1.toInt > 6 → wp_125 (-1) m (fun x11 m12 => Q x11 m12)))))
theorem zr_143 {d : Nat} (hd : 1 ≤ d) {v1 : Int32} {v2 : Int32} {Q : Int32 → zf_Me → Prop} {m : zf_Me} (h : wp_143 v1 v2 m Q) : zf_M d 143 [.inr (.inr (1, 63)), .inl v1, .inl v2] m (zf_I Q) := by
  obtain ⟨e, rfl⟩ : ∃ z, d = z + 1 := ⟨d - 1, by omega⟩
  unfold wp_143 at h
  refine zf_M_of (Nat.le_of_ble_eq_true rfl) zm_143 (L := [some (.inr (.inr (1, 63))), some (.inl v1), some (.inl v2)]) rfl ?_
  refine zf_ld (pc' := 1) (v := .inl v1) dX8_person_0 rfl (fun _ _ _ => rfl) rfl rfl rfl ?_
  refine zf_if_lt (tgt := 10) (pc' := 4) dX8_person_1 rfl rfl (fun g => ?_) (fun g => ?_)
  · replace h := h.1 g
    refine zf_ld (pc' := 11) (v := .inr (.inr (1, 63))) dX8_person_10 rfl (fun _ _ _ => rfl) rfl rfl rfl ?_
    refine zf_ic (v := (-1)) (pc' := 12) dX8_person_11 rfl rfl ?_
    refine zf_iv (k := 125) (pc' := 15) (r := []) dX8_person_12 rfl rfl rfl rfl (by decide) rfl rfl rfl (zr_125 (by omega) h) (zf_kI (fun x1 m2 h => ?_))
    exact zf_ri dX8_person_15 rfl h
  · replace h := h.2 g
    refine zf_ld (pc' := 5) (v := .inl v1) dX8_person_4 rfl (fun _ _ _ => rfl) rfl rfl rfl ?_
    refine zf_bi (v := 6) (pc' := 7) dX8_person_5 rfl rfl ?_
    refine zf_icmp_le (tgt := 16) (pc' := 10) dX8_person_7 rfl rfl (fun g => ?_) (fun g => ?_)
    · replace h := h.1 g
      refine zf_ld (pc' := 17) (v := .inl v2) dX8_person_16 rfl (fun _ _ _ => rfl) rfl rfl rfl ?_
      refine zf_if_lt (tgt := 26) (pc' := 20) dX8_person_17 rfl rfl (fun g => ?_) (fun g => ?_)
      · replace h := h.1 g
        refine zf_ld (pc' := 27) (v := .inr (.inr (1, 63))) dX8_person_26 rfl (fun _ _ _ => rfl) rfl rfl rfl ?_
        refine zf_bi (v := (-6)) (pc' := 29) dX8_person_27 rfl rfl ?_
        refine zf_iv (k := 125) (pc' := 32) (r := []) dX8_person_29 rfl rfl rfl rfl (by decide) rfl rfl rfl (zr_125 (by omega) h) (zf_kI (fun x3 m4 h => ?_))
        exact zf_ri dX8_person_32 rfl h
      · replace h := h.2 g
        refine zf_ld (pc' := 21) (v := .inl v2) dX8_person_20 rfl (fun _ _ _ => rfl) rfl rfl rfl ?_
        refine zf_bi (v := 9) (pc' := 23) dX8_person_21 rfl rfl ?_
        refine zf_icmp_le (tgt := 33) (pc' := 26) dX8_person_23 rfl rfl (fun g => ?_) (fun g => ?_)
        · replace h := h.1 g
          refine zf_ld (pc' := 34) (v := .inr (.inr (1, 63))) dX8_person_33 rfl (fun _ _ _ => rfl) rfl rfl rfl ?_
          refine zf_gfi (pc' := 37) dX8_person_34 rfl rfl (by decide) rfl rfl ?_
          refine zf_bi (v := 6) (pc' := 39) dX8_person_37 rfl rfl ?_
          refine zf_icmp_ne (tgt := 51) (pc' := 42) dX8_person_39 rfl rfl (fun g => ?_) (fun g => ?_)
          · replace h := h.1 g
            refine zf_ld (pc' := 52) (v := .inr (.inr (1, 63))) dX8_person_51 rfl (fun _ _ _ => rfl) rfl rfl rfl ?_
            refine zf_ld (pc' := 53) (v := .inl v1) dX8_person_52 rfl (fun _ _ _ => rfl) rfl rfl rfl ?_
            refine zf_ld (pc' := 54) (v := .inl v2) dX8_person_53 rfl (fun _ _ _ => rfl) rfl rfl rfl ?_
            refine zf_iv (k := 141) (pc' := 57) (r := []) dX8_person_54 rfl rfl rfl rfl (by decide) rfl rfl rfl (zr_141 (by omega) h) (zf_kI (fun x5 m6 h => ?_))
            exact zf_ri dX8_person_57 rfl h
          · replace h := h.2 g
            refine zf_ld (pc' := 43) (v := .inr (.inr (1, 63))) dX8_person_42 rfl (fun _ _ _ => rfl) rfl rfl rfl ?_
            refine zf_bi (v := (-7)) (pc' := 45) dX8_person_43 rfl rfl ?_
            refine zf_iv (k := 125) (pc' := 48) (r := []) dX8_person_45 rfl rfl rfl rfl (by decide) rfl rfl rfl (zr_125 (by omega) h) (zf_kI (fun x7 m8 h => ?_))
            refine zf_goto (tgt := 57) dX8_person_48 rfl ?_
            exact zf_ri dX8_person_57 rfl h
        · replace h := h.2 g
          refine zf_ld (pc' := 27) (v := .inr (.inr (1, 63))) dX8_person_26 rfl (fun _ _ _ => rfl) rfl rfl rfl ?_
          refine zf_bi (v := (-6)) (pc' := 29) dX8_person_27 rfl rfl ?_
          refine zf_iv (k := 125) (pc' := 32) (r := []) dX8_person_29 rfl rfl rfl rfl (by decide) rfl rfl rfl (zr_125 (by omega) h) (zf_kI (fun x9 m10 h => ?_))
          exact zf_ri dX8_person_32 rfl h
    · replace h := h.2 g
      refine zf_ld (pc' := 11) (v := .inr (.inr (1, 63))) dX8_person_10 rfl (fun _ _ _ => rfl) rfl rfl rfl ?_
      refine zf_ic (v := (-1)) (pc' := 12) dX8_person_11 rfl rfl ?_
      refine zf_iv (k := 125) (pc' := 15) (r := []) dX8_person_12 rfl rfl rfl rfl (by decide) rfl rfl rfl (zr_125 (by omega) h) (zf_kI (fun x11 m12 h => ?_))
      exact zf_ri dX8_person_15 rfl h
def zt_144 : zx_MT := (8, yX8_furlongOf, cX8_furlongOf, 3, (some FieldType.int), 2, 0)
theorem zm_144 : zx_m 144 = zt_144 := rfl
theorem dX8_furlongOf_r0 : zdcP cX8_furlongOf 0 [(.aload_n 0, 1), (.iload_n 1, 1), (.invokevirtual 139, 3), (.ifCond .eq 12, 3), (.iload_n 2, 1), (.ifCond .lt 8, 3), (.iload_n 2, 1), (.iconst 1, 1), (.if_icmp .le 10, 3), (.aload_n 0, 1), (.bipush (-5), 2), (.invokevirtual 142, 3), (.ireturn, 1), (.iload_n 2, 1), (.ifCond .ne 12, 3), (.aload_n 0, 1)] := zdcA_ok (by decide +kernel)
theorem dX8_furlongOf_0 : decode cX8_furlongOf 0 = .ok (.aload_n 0, 1) := dX8_furlongOf_r0.1
theorem dX8_furlongOf_1 : decode cX8_furlongOf 1 = .ok (.iload_n 1, 1) := dX8_furlongOf_r0.2.1
theorem dX8_furlongOf_2 : decode cX8_furlongOf 2 = .ok (.invokevirtual 139, 3) := dX8_furlongOf_r0.2.2.1
theorem dX8_furlongOf_5 : decode cX8_furlongOf 5 = .ok (.ifCond .eq 12, 3) := dX8_furlongOf_r0.2.2.2.1
theorem dX8_furlongOf_8 : decode cX8_furlongOf 8 = .ok (.iload_n 2, 1) := dX8_furlongOf_r0.2.2.2.2.1
theorem dX8_furlongOf_9 : decode cX8_furlongOf 9 = .ok (.ifCond .lt 8, 3) := dX8_furlongOf_r0.2.2.2.2.2.1
theorem dX8_furlongOf_12 : decode cX8_furlongOf 12 = .ok (.iload_n 2, 1) := dX8_furlongOf_r0.2.2.2.2.2.2.1
theorem dX8_furlongOf_13 : decode cX8_furlongOf 13 = .ok (.iconst 1, 1) := dX8_furlongOf_r0.2.2.2.2.2.2.2.1
theorem dX8_furlongOf_14 : decode cX8_furlongOf 14 = .ok (.if_icmp .le 10, 3) := dX8_furlongOf_r0.2.2.2.2.2.2.2.2.1
theorem dX8_furlongOf_17 : decode cX8_furlongOf 17 = .ok (.aload_n 0, 1) := dX8_furlongOf_r0.2.2.2.2.2.2.2.2.2.1
theorem dX8_furlongOf_18 : decode cX8_furlongOf 18 = .ok (.bipush (-5), 2) := dX8_furlongOf_r0.2.2.2.2.2.2.2.2.2.2.1
theorem dX8_furlongOf_20 : decode cX8_furlongOf 20 = .ok (.invokevirtual 142, 3) := dX8_furlongOf_r0.2.2.2.2.2.2.2.2.2.2.2.1
theorem dX8_furlongOf_23 : decode cX8_furlongOf 23 = .ok (.ireturn, 1) := dX8_furlongOf_r0.2.2.2.2.2.2.2.2.2.2.2.2.1
theorem dX8_furlongOf_24 : decode cX8_furlongOf 24 = .ok (.iload_n 2, 1) := dX8_furlongOf_r0.2.2.2.2.2.2.2.2.2.2.2.2.2.1
theorem dX8_furlongOf_25 : decode cX8_furlongOf 25 = .ok (.ifCond .ne 12, 3) := dX8_furlongOf_r0.2.2.2.2.2.2.2.2.2.2.2.2.2.2.1
theorem dX8_furlongOf_28 : decode cX8_furlongOf 28 = .ok (.aload_n 0, 1) := dX8_furlongOf_r0.2.2.2.2.2.2.2.2.2.2.2.2.2.2.2.1
theorem dX8_furlongOf_r29 : zdcP cX8_furlongOf 29 [(.getfield 41, 3), (.iload_n 1, 1), (.iaload, 1), (.goto 9, 3), (.aload_n 0, 1), (.getfield 44, 3), (.iload_n 1, 1), (.iaload, 1), (.ireturn, 1)] := zdcA_ok (by decide +kernel)
theorem dX8_furlongOf_29 : decode cX8_furlongOf 29 = .ok (.getfield 41, 3) := dX8_furlongOf_r29.1
theorem dX8_furlongOf_32 : decode cX8_furlongOf 32 = .ok (.iload_n 1, 1) := dX8_furlongOf_r29.2.1
theorem dX8_furlongOf_33 : decode cX8_furlongOf 33 = .ok (.iaload, 1) := dX8_furlongOf_r29.2.2.1
theorem dX8_furlongOf_34 : decode cX8_furlongOf 34 = .ok (.goto 9, 3) := dX8_furlongOf_r29.2.2.2.1
theorem dX8_furlongOf_37 : decode cX8_furlongOf 37 = .ok (.aload_n 0, 1) := dX8_furlongOf_r29.2.2.2.2.1
theorem dX8_furlongOf_38 : decode cX8_furlongOf 38 = .ok (.getfield 44, 3) := dX8_furlongOf_r29.2.2.2.2.2.1
theorem dX8_furlongOf_41 : decode cX8_furlongOf 41 = .ok (.iload_n 1, 1) := dX8_furlongOf_r29.2.2.2.2.2.2.1
theorem dX8_furlongOf_42 : decode cX8_furlongOf 42 = .ok (.iaload, 1) := dX8_furlongOf_r29.2.2.2.2.2.2.2.1
theorem dX8_furlongOf_43 : decode cX8_furlongOf 43 = .ok (.ireturn, 1) := dX8_furlongOf_r29.2.2.2.2.2.2.2.2.1
def wp_144 (v1 : Int32) (v2 : Int32) (m : zf_Me) (Q : Int32 → zf_Me → Prop) : Prop := wp_129 v1 m (fun b1 m2 => ((b1 = false → wp_126 (-5) m2 (fun x3 m4 => Q x3 m4)) ∧ (b1 = true → ((v2.toInt < 0 → wp_126 (-5) m2 (fun x5 m6 => Q x5 m6)) ∧ (v2.toInt ≥ 0 → ((v2.toInt ≤ 1 → ((¬ v2.toInt = 0 → ((0 ≤ (Int32.toInt v1) ∧ (Int32.toInt v1) < (24 : Int)) ∧ Q (m2.1 66 (Int32.toInt v1).toNat) m2)) ∧ (v2.toInt = 0 → ((0 ≤ (Int32.toInt v1) ∧ (Int32.toInt v1) < (24 : Int)) ∧ Q (m2.1 65 (Int32.toInt v1).toNat) m2)))) ∧ (v2.toInt > 1 → wp_126 (-5) m2 (fun x7 m8 => Q x7 m8))))))))
theorem zr_144 {d : Nat} (hd : 1 ≤ d) {v1 : Int32} {v2 : Int32} {Q : Int32 → zf_Me → Prop} {m : zf_Me} (h : wp_144 v1 v2 m Q) : zf_M d 144 [.inr (.inr (1, 63)), .inl v1, .inl v2] m (zf_I Q) := by
  obtain ⟨e, rfl⟩ : ∃ z, d = z + 1 := ⟨d - 1, by omega⟩
  unfold wp_144 at h
  refine zf_M_of (Nat.le_of_ble_eq_true rfl) zm_144 (L := [some (.inr (.inr (1, 63))), some (.inl v1), some (.inl v2)]) rfl ?_
  refine zf_ld (pc' := 1) (v := .inr (.inr (1, 63))) dX8_furlongOf_0 rfl (fun _ _ _ => rfl) rfl rfl rfl ?_
  refine zf_ld (pc' := 2) (v := .inl v1) dX8_furlongOf_1 rfl (fun _ _ _ => rfl) rfl rfl rfl ?_
  refine zf_iv (k := 129) (pc' := 5) (r := []) dX8_furlongOf_2 rfl rfl rfl rfl (by decide) rfl rfl rfl (zr_129 (by omega) h) (zf_kB (fun b1 m2 h => ?_))
  refine zf_ib_eq (tgt := 17) (pc' := 8) dX8_furlongOf_5 rfl rfl (fun g => ?_) (fun g => ?_)
  · replace h := h.1 g
    refine zf_ld (pc' := 18) (v := .inr (.inr (1, 63))) dX8_furlongOf_17 rfl (fun _ _ _ => rfl) rfl rfl rfl ?_
    refine zf_bi (v := (-5)) (pc' := 20) dX8_furlongOf_18 rfl rfl ?_
    refine zf_iv (k := 126) (pc' := 23) (r := []) dX8_furlongOf_20 rfl rfl rfl rfl (by decide) rfl rfl rfl (zr_126 (by omega) h) (zf_kI (fun x3 m4 h => ?_))
    exact zf_ri dX8_furlongOf_23 rfl h
  · replace h := h.2 g
    refine zf_ld (pc' := 9) (v := .inl v2) dX8_furlongOf_8 rfl (fun _ _ _ => rfl) rfl rfl rfl ?_
    refine zf_if_lt (tgt := 17) (pc' := 12) dX8_furlongOf_9 rfl rfl (fun g => ?_) (fun g => ?_)
    · replace h := h.1 g
      refine zf_ld (pc' := 18) (v := .inr (.inr (1, 63))) dX8_furlongOf_17 rfl (fun _ _ _ => rfl) rfl rfl rfl ?_
      refine zf_bi (v := (-5)) (pc' := 20) dX8_furlongOf_18 rfl rfl ?_
      refine zf_iv (k := 126) (pc' := 23) (r := []) dX8_furlongOf_20 rfl rfl rfl rfl (by decide) rfl rfl rfl (zr_126 (by omega) h) (zf_kI (fun x5 m6 h => ?_))
      exact zf_ri dX8_furlongOf_23 rfl h
    · replace h := h.2 g
      refine zf_ld (pc' := 13) (v := .inl v2) dX8_furlongOf_12 rfl (fun _ _ _ => rfl) rfl rfl rfl ?_
      refine zf_ic (v := 1) (pc' := 14) dX8_furlongOf_13 rfl rfl ?_
      refine zf_icmp_le (tgt := 24) (pc' := 17) dX8_furlongOf_14 rfl rfl (fun g => ?_) (fun g => ?_)
      · replace h := h.1 g
        refine zf_ld (pc' := 25) (v := .inl v2) dX8_furlongOf_24 rfl (fun _ _ _ => rfl) rfl rfl rfl ?_
        refine zf_if_ne (tgt := 37) (pc' := 28) dX8_furlongOf_25 rfl rfl (fun g => ?_) (fun g => ?_)
        · replace h := h.1 g
          refine zf_ld (pc' := 38) (v := .inr (.inr (1, 63))) dX8_furlongOf_37 rfl (fun _ _ _ => rfl) rfl rfl rfl ?_
          refine zf_gfr (pc' := 41) (b := 66) dX8_furlongOf_38 rfl rfl (by decide) rfl rfl ?_
          refine zf_ld (pc' := 42) (v := .inl v1) dX8_furlongOf_41 rfl (fun _ _ _ => rfl) rfl rfl rfl ?_
          refine zf_ial (pc' := 43) dX8_furlongOf_42 rfl (⟨by decide, rfl⟩ : zf_arr 66 24).1 (⟨by decide, rfl⟩ : zf_arr 66 24).2 h.1 rfl ?_
          replace h := h.2
          exact zf_ri dX8_furlongOf_43 rfl h
        · replace h := h.2 g
          refine zf_ld (pc' := 29) (v := .inr (.inr (1, 63))) dX8_furlongOf_28 rfl (fun _ _ _ => rfl) rfl rfl rfl ?_
          refine zf_gfr (pc' := 32) (b := 65) dX8_furlongOf_29 rfl rfl (by decide) rfl rfl ?_
          refine zf_ld (pc' := 33) (v := .inl v1) dX8_furlongOf_32 rfl (fun _ _ _ => rfl) rfl rfl rfl ?_
          refine zf_ial (pc' := 34) dX8_furlongOf_33 rfl (⟨by decide, rfl⟩ : zf_arr 65 24).1 (⟨by decide, rfl⟩ : zf_arr 65 24).2 h.1 rfl ?_
          replace h := h.2
          refine zf_goto (tgt := 43) dX8_furlongOf_34 rfl ?_
          exact zf_ri dX8_furlongOf_43 rfl h
      · replace h := h.2 g
        refine zf_ld (pc' := 18) (v := .inr (.inr (1, 63))) dX8_furlongOf_17 rfl (fun _ _ _ => rfl) rfl rfl rfl ?_
        refine zf_bi (v := (-5)) (pc' := 20) dX8_furlongOf_18 rfl rfl ?_
        refine zf_iv (k := 126) (pc' := 23) (r := []) dX8_furlongOf_20 rfl rfl rfl rfl (by decide) rfl rfl rfl (zr_126 (by omega) h) (zf_kI (fun x7 m8 h => ?_))
        exact zf_ri dX8_furlongOf_23 rfl h
def zt_145 : zx_MT := (8, yX8_personOf, cX8_personOf, 3, (some FieldType.int), 2, 0)
theorem zm_145 : zx_m 145 = zt_145 := rfl
theorem dX8_personOf_r0 : zdcP cX8_personOf 0 [(.aload_n 0, 1), (.iload_n 1, 1), (.invokevirtual 119, 3), (.ifCond .ne 10, 3), (.aload_n 0, 1), (.bipush (-5), 2), (.invokevirtual 115, 3), (.ireturn, 1), (.iload_n 2, 1)] := zdcA_ok (by decide +kernel)
theorem dX8_personOf_0 : decode cX8_personOf 0 = .ok (.aload_n 0, 1) := dX8_personOf_r0.1
theorem dX8_personOf_1 : decode cX8_personOf 1 = .ok (.iload_n 1, 1) := dX8_personOf_r0.2.1
theorem dX8_personOf_2 : decode cX8_personOf 2 = .ok (.invokevirtual 119, 3) := dX8_personOf_r0.2.2.1
theorem dX8_personOf_5 : decode cX8_personOf 5 = .ok (.ifCond .ne 10, 3) := dX8_personOf_r0.2.2.2.1
theorem dX8_personOf_8 : decode cX8_personOf 8 = .ok (.aload_n 0, 1) := dX8_personOf_r0.2.2.2.2.1
theorem dX8_personOf_9 : decode cX8_personOf 9 = .ok (.bipush (-5), 2) := dX8_personOf_r0.2.2.2.2.2.1
theorem dX8_personOf_11 : decode cX8_personOf 11 = .ok (.invokevirtual 115, 3) := dX8_personOf_r0.2.2.2.2.2.2.1
theorem dX8_personOf_14 : decode cX8_personOf 14 = .ok (.ireturn, 1) := dX8_personOf_r0.2.2.2.2.2.2.2.1
theorem dX8_personOf_15 : decode cX8_personOf 15 = .ok (.iload_n 2, 1) := dX8_personOf_r0.2.2.2.2.2.2.2.2.1
theorem dX8_personOf_16 : decode cX8_personOf 16 = .ok (.tableswitch 67 0 3 #[32, 39, 46, 53], 32) := by decide +kernel
theorem dX8_personOf_r48 : zdcP cX8_personOf 48 [(.aload_n 0, 1), (.getfield 47, 3), (.iload_n 1, 1), (.iaload, 1), (.ireturn, 1), (.aload_n 0, 1), (.getfield 50, 3), (.iload_n 1, 1), (.iaload, 1), (.ireturn, 1), (.aload_n 0, 1), (.getfield 53, 3), (.iload_n 1, 1), (.iaload, 1), (.ireturn, 1), (.aload_n 0, 1)] := zdcA_ok (by decide +kernel)
theorem dX8_personOf_48 : decode cX8_personOf 48 = .ok (.aload_n 0, 1) := dX8_personOf_r48.1
theorem dX8_personOf_49 : decode cX8_personOf 49 = .ok (.getfield 47, 3) := dX8_personOf_r48.2.1
theorem dX8_personOf_52 : decode cX8_personOf 52 = .ok (.iload_n 1, 1) := dX8_personOf_r48.2.2.1
theorem dX8_personOf_53 : decode cX8_personOf 53 = .ok (.iaload, 1) := dX8_personOf_r48.2.2.2.1
theorem dX8_personOf_54 : decode cX8_personOf 54 = .ok (.ireturn, 1) := dX8_personOf_r48.2.2.2.2.1
theorem dX8_personOf_55 : decode cX8_personOf 55 = .ok (.aload_n 0, 1) := dX8_personOf_r48.2.2.2.2.2.1
theorem dX8_personOf_56 : decode cX8_personOf 56 = .ok (.getfield 50, 3) := dX8_personOf_r48.2.2.2.2.2.2.1
theorem dX8_personOf_59 : decode cX8_personOf 59 = .ok (.iload_n 1, 1) := dX8_personOf_r48.2.2.2.2.2.2.2.1
theorem dX8_personOf_60 : decode cX8_personOf 60 = .ok (.iaload, 1) := dX8_personOf_r48.2.2.2.2.2.2.2.2.1
theorem dX8_personOf_61 : decode cX8_personOf 61 = .ok (.ireturn, 1) := dX8_personOf_r48.2.2.2.2.2.2.2.2.2.1
theorem dX8_personOf_62 : decode cX8_personOf 62 = .ok (.aload_n 0, 1) := dX8_personOf_r48.2.2.2.2.2.2.2.2.2.2.1
theorem dX8_personOf_63 : decode cX8_personOf 63 = .ok (.getfield 53, 3) := dX8_personOf_r48.2.2.2.2.2.2.2.2.2.2.2.1
theorem dX8_personOf_66 : decode cX8_personOf 66 = .ok (.iload_n 1, 1) := dX8_personOf_r48.2.2.2.2.2.2.2.2.2.2.2.2.1
theorem dX8_personOf_67 : decode cX8_personOf 67 = .ok (.iaload, 1) := dX8_personOf_r48.2.2.2.2.2.2.2.2.2.2.2.2.2.1
theorem dX8_personOf_68 : decode cX8_personOf 68 = .ok (.ireturn, 1) := dX8_personOf_r48.2.2.2.2.2.2.2.2.2.2.2.2.2.2.1
theorem dX8_personOf_69 : decode cX8_personOf 69 = .ok (.aload_n 0, 1) := dX8_personOf_r48.2.2.2.2.2.2.2.2.2.2.2.2.2.2.2.1
theorem dX8_personOf_r70 : zdcP cX8_personOf 70 [(.getfield 9, 3), (.iload_n 1, 1), (.if_icmp .ne 7, 3), (.iconst 1, 1), (.goto 4, 3), (.iconst 0, 1), (.ireturn, 1), (.aload_n 0, 1), (.bipush (-5), 2), (.invokevirtual 115, 3), (.ireturn, 1)] := zdcA_ok (by decide +kernel)
theorem dX8_personOf_70 : decode cX8_personOf 70 = .ok (.getfield 9, 3) := dX8_personOf_r70.1
theorem dX8_personOf_73 : decode cX8_personOf 73 = .ok (.iload_n 1, 1) := dX8_personOf_r70.2.1
theorem dX8_personOf_74 : decode cX8_personOf 74 = .ok (.if_icmp .ne 7, 3) := dX8_personOf_r70.2.2.1
theorem dX8_personOf_77 : decode cX8_personOf 77 = .ok (.iconst 1, 1) := dX8_personOf_r70.2.2.2.1
theorem dX8_personOf_78 : decode cX8_personOf 78 = .ok (.goto 4, 3) := dX8_personOf_r70.2.2.2.2.1
theorem dX8_personOf_81 : decode cX8_personOf 81 = .ok (.iconst 0, 1) := dX8_personOf_r70.2.2.2.2.2.1
theorem dX8_personOf_82 : decode cX8_personOf 82 = .ok (.ireturn, 1) := dX8_personOf_r70.2.2.2.2.2.2.1
theorem dX8_personOf_83 : decode cX8_personOf 83 = .ok (.aload_n 0, 1) := dX8_personOf_r70.2.2.2.2.2.2.2.1
theorem dX8_personOf_84 : decode cX8_personOf 84 = .ok (.bipush (-5), 2) := dX8_personOf_r70.2.2.2.2.2.2.2.2.1
theorem dX8_personOf_86 : decode cX8_personOf 86 = .ok (.invokevirtual 115, 3) := dX8_personOf_r70.2.2.2.2.2.2.2.2.2.1
theorem dX8_personOf_89 : decode cX8_personOf 89 = .ok (.ireturn, 1) := dX8_personOf_r70.2.2.2.2.2.2.2.2.2.2.1
def wp_145 (v1 : Int32) (v2 : Int32) (m : zf_Me) (Q : Int32 → zf_Me → Prop) : Prop := wp_128 v1 m (fun b1 m2 => ((b1 = true → (((v2.toInt < 0 ∨ v2.toInt > 3) → wp_125 (-5) m2 (fun x3 m4 => Q x3 m4)) ∧ (v2.toInt = 0 → ((0 ≤ (Int32.toInt v1) ∧ (Int32.toInt v1) < (6 : Int)) ∧ Q (m2.1 67 (Int32.toInt v1).toNat) m2)) ∧ (v2.toInt = 1 → ((0 ≤ (Int32.toInt v1) ∧ (Int32.toInt v1) < (6 : Int)) ∧ Q (m2.1 68 (Int32.toInt v1).toNat) m2)) ∧ (v2.toInt = 2 → ((0 ≤ (Int32.toInt v1) ∧ (Int32.toInt v1) < (6 : Int)) ∧ Q (m2.1 69 (Int32.toInt v1).toNat) m2)) ∧ (v2.toInt = 3 → ((¬ ((m2.1 63 2)).toInt = v1.toInt → Q 0 m2) ∧ (((m2.1 63 2)).toInt = v1.toInt → Q 1 m2))))) ∧ (b1 = false → wp_125 (-5) m2 (fun x5 m6 => Q x5 m6))))
theorem zr_145 {d : Nat} (hd : 1 ≤ d) {v1 : Int32} {v2 : Int32} {Q : Int32 → zf_Me → Prop} {m : zf_Me} (h : wp_145 v1 v2 m Q) : zf_M d 145 [.inr (.inr (1, 63)), .inl v1, .inl v2] m (zf_I Q) := by
  obtain ⟨e, rfl⟩ : ∃ z, d = z + 1 := ⟨d - 1, by omega⟩
  unfold wp_145 at h
  refine zf_M_of (Nat.le_of_ble_eq_true rfl) zm_145 (L := [some (.inr (.inr (1, 63))), some (.inl v1), some (.inl v2)]) rfl ?_
  refine zf_ld (pc' := 1) (v := .inr (.inr (1, 63))) dX8_personOf_0 rfl (fun _ _ _ => rfl) rfl rfl rfl ?_
  refine zf_ld (pc' := 2) (v := .inl v1) dX8_personOf_1 rfl (fun _ _ _ => rfl) rfl rfl rfl ?_
  refine zf_iv (k := 128) (pc' := 5) (r := []) dX8_personOf_2 rfl rfl rfl rfl (by decide) rfl rfl rfl (zr_128 (by omega) h) (zf_kB (fun b1 m2 h => ?_))
  refine zf_ib_ne (tgt := 15) (pc' := 8) dX8_personOf_5 rfl rfl (fun g => ?_) (fun g => ?_)
  · replace h := h.1 g
    refine zf_ld (pc' := 16) (v := .inl v2) dX8_personOf_15 rfl (fun _ _ _ => rfl) rfl rfl rfl ?_
    refine zf_tsc (tgd := 83) dX8_personOf_16 rfl [48, 55, 62, 69] (by decide) (by decide) (fun g => ?_) (zl_cons (fun g => ?_) (zl_cons (fun g => ?_) (zl_cons (fun g => ?_) (zl_cons (fun g => ?_) (zl_nil)))))
    · replace h := h.1 (by omega)
      refine zf_ld (pc' := 84) (v := .inr (.inr (1, 63))) dX8_personOf_83 rfl (fun _ _ _ => rfl) rfl rfl rfl ?_
      refine zf_bi (v := (-5)) (pc' := 86) dX8_personOf_84 rfl rfl ?_
      refine zf_iv (k := 125) (pc' := 89) (r := []) dX8_personOf_86 rfl rfl rfl rfl (by decide) rfl rfl rfl (zr_125 (by omega) h) (zf_kI (fun x3 m4 h => ?_))
      exact zf_ri dX8_personOf_89 rfl h
    · replace h := h.2.1 (by omega)
      refine zf_ld (pc' := 49) (v := .inr (.inr (1, 63))) dX8_personOf_48 rfl (fun _ _ _ => rfl) rfl rfl rfl ?_
      refine zf_gfr (pc' := 52) (b := 67) dX8_personOf_49 rfl rfl (by decide) rfl rfl ?_
      refine zf_ld (pc' := 53) (v := .inl v1) dX8_personOf_52 rfl (fun _ _ _ => rfl) rfl rfl rfl ?_
      refine zf_ial (pc' := 54) dX8_personOf_53 rfl (⟨by decide, rfl⟩ : zf_arr 67 6).1 (⟨by decide, rfl⟩ : zf_arr 67 6).2 h.1 rfl ?_
      replace h := h.2
      exact zf_ri dX8_personOf_54 rfl h
    · replace h := h.2.2.1 (by omega)
      refine zf_ld (pc' := 56) (v := .inr (.inr (1, 63))) dX8_personOf_55 rfl (fun _ _ _ => rfl) rfl rfl rfl ?_
      refine zf_gfr (pc' := 59) (b := 68) dX8_personOf_56 rfl rfl (by decide) rfl rfl ?_
      refine zf_ld (pc' := 60) (v := .inl v1) dX8_personOf_59 rfl (fun _ _ _ => rfl) rfl rfl rfl ?_
      refine zf_ial (pc' := 61) dX8_personOf_60 rfl (⟨by decide, rfl⟩ : zf_arr 68 6).1 (⟨by decide, rfl⟩ : zf_arr 68 6).2 h.1 rfl ?_
      replace h := h.2
      exact zf_ri dX8_personOf_61 rfl h
    · replace h := h.2.2.2.1 (by omega)
      refine zf_ld (pc' := 63) (v := .inr (.inr (1, 63))) dX8_personOf_62 rfl (fun _ _ _ => rfl) rfl rfl rfl ?_
      refine zf_gfr (pc' := 66) (b := 69) dX8_personOf_63 rfl rfl (by decide) rfl rfl ?_
      refine zf_ld (pc' := 67) (v := .inl v1) dX8_personOf_66 rfl (fun _ _ _ => rfl) rfl rfl rfl ?_
      refine zf_ial (pc' := 68) dX8_personOf_67 rfl (⟨by decide, rfl⟩ : zf_arr 69 6).1 (⟨by decide, rfl⟩ : zf_arr 69 6).2 h.1 rfl ?_
      replace h := h.2
      exact zf_ri dX8_personOf_68 rfl h
    · replace h := h.2.2.2.2 (by omega)
      refine zf_ld (pc' := 70) (v := .inr (.inr (1, 63))) dX8_personOf_69 rfl (fun _ _ _ => rfl) rfl rfl rfl ?_
      refine zf_gfi (pc' := 73) dX8_personOf_70 rfl rfl (by decide) rfl rfl ?_
      refine zf_ld (pc' := 74) (v := .inl v1) dX8_personOf_73 rfl (fun _ _ _ => rfl) rfl rfl rfl ?_
      refine zf_icmp_ne (tgt := 81) (pc' := 77) dX8_personOf_74 rfl rfl (fun g => ?_) (fun g => ?_)
      · replace h := h.1 g
        refine zf_ic (v := 0) (pc' := 82) dX8_personOf_81 rfl rfl ?_
        exact zf_ri dX8_personOf_82 rfl h
      · replace h := h.2 g
        refine zf_ic (v := 1) (pc' := 78) dX8_personOf_77 rfl rfl ?_
        refine zf_goto (tgt := 82) dX8_personOf_78 rfl ?_
        exact zf_ri dX8_personOf_82 rfl h
  · replace h := h.2 g
    refine zf_ld (pc' := 9) (v := .inr (.inr (1, 63))) dX8_personOf_8 rfl (fun _ _ _ => rfl) rfl rfl rfl ?_
    refine zf_bi (v := (-5)) (pc' := 11) dX8_personOf_9 rfl rfl ?_
    refine zf_iv (k := 125) (pc' := 14) (r := []) dX8_personOf_11 rfl rfl rfl rfl (by decide) rfl rfl rfl (zr_125 (by omega) h) (zf_kI (fun x5 m6 h => ?_))
    exact zf_ri dX8_personOf_14 rfl h
