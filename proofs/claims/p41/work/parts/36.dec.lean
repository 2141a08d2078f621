section
/-! part 36: methods 136..: laid by wip/flat/dec.py -/
def zt_136 : zx_MT := (8, yX8_says, cX8_says, 6, (some FieldType.int), 2, 0)
theorem zm_136 : zx_m 136 = zt_136 := rfl
theorem dX8_says_r0 : zdcP cX8_says 0 [(.aload_n 0, 1), (.iload_n 1, 1), (.invokevirtual 111, 3), (.ifCond .eq 13, 3), (.iload_n 2, 1), (.ifCond .lt 9, 3), (.iload_n 2, 1), (.bipush 6, 2), (.if_icmp .le 9, 3), (.aload_n 0, 1), (.iconst (-1), 1), (.invokevirtual 115, 3), (.ireturn, 1), (.aload_n 0, 1), (.getfield 56, 3), (.iload_n 1, 1)] := zdcA_ok (by decide +kernel)
theorem dX8_says_0 : decode cX8_says 0 = .ok (.aload_n 0, 1) := dX8_says_r0.1
theorem dX8_says_1 : decode cX8_says 1 = .ok (.iload_n 1, 1) := dX8_says_r0.2.1
theorem dX8_says_2 : decode cX8_says 2 = .ok (.invokevirtual 111, 3) := dX8_says_r0.2.2.1
theorem dX8_says_5 : decode cX8_says 5 = .ok (.ifCond .eq 13, 3) := dX8_says_r0.2.2.2.1
theorem dX8_says_8 : decode cX8_says 8 = .ok (.iload_n 2, 1) := dX8_says_r0.2.2.2.2.1
theorem dX8_says_9 : decode cX8_says 9 = .ok (.ifCond .lt 9, 3) := dX8_says_r0.2.2.2.2.2.1
theorem dX8_says_12 : decode cX8_says 12 = .ok (.iload_n 2, 1) := dX8_says_r0.2.2.2.2.2.2.1
theorem dX8_says_13 : decode cX8_says 13 = .ok (.bipush 6, 2) := dX8_says_r0.2.2.2.2.2.2.2.1
theorem dX8_says_15 : decode cX8_says 15 = .ok (.if_icmp .le 9, 3) := dX8_says_r0.2.2.2.2.2.2.2.2.1
theorem dX8_says_18 : decode cX8_says 18 = .ok (.aload_n 0, 1) := dX8_says_r0.2.2.2.2.2.2.2.2.2.1
theorem dX8_says_19 : decode cX8_says 19 = .ok (.iconst (-1), 1) := dX8_says_r0.2.2.2.2.2.2.2.2.2.2.1
theorem dX8_says_20 : decode cX8_says 20 = .ok (.invokevirtual 115, 3) := dX8_says_r0.2.2.2.2.2.2.2.2.2.2.2.1
theorem dX8_says_23 : decode cX8_says 23 = .ok (.ireturn, 1) := dX8_says_r0.2.2.2.2.2.2.2.2.2.2.2.2.1
theorem dX8_says_24 : decode cX8_says 24 = .ok (.aload_n 0, 1) := dX8_says_r0.2.2.2.2.2.2.2.2.2.2.2.2.2.1
theorem dX8_says_25 : decode cX8_says 25 = .ok (.getfield 56, 3) := dX8_says_r0.2.2.2.2.2.2.2.2.2.2.2.2.2.2.1
theorem dX8_says_28 : decode cX8_says 28 = .ok (.iload_n 1, 1) := dX8_says_r0.2.2.2.2.2.2.2.2.2.2.2.2.2.2.2.1
theorem dX8_says_r29 : zdcP cX8_says 29 [(.iaload, 1), (.iconst 1, 1), (.if_icmp .ne 10, 3), (.aload_n 0, 1), (.bipush (-2), 2), (.invokevirtual 115, 3), (.ireturn, 1), (.aload_n 0, 1), (.getfield 56, 3), (.iload_n 1, 1), (.iaload, 1), (.ifCond .ne 10, 3), (.aload_n 0, 1), (.bipush (-3), 2), (.invokevirtual 115, 3), (.ireturn, 1)] := zdcA_ok (by decide +kernel)
theorem dX8_says_29 : decode cX8_says 29 = .ok (.iaload, 1) := dX8_says_r29.1
theorem dX8_says_30 : decode cX8_says 30 = .ok (.iconst 1, 1) := dX8_says_r29.2.1
theorem dX8_says_31 : decode cX8_says 31 = .ok (.if_icmp .ne 10, 3) := dX8_says_r29.2.2.1
theorem dX8_says_34 : decode cX8_says 34 = .ok (.aload_n 0, 1) := dX8_says_r29.2.2.2.1
theorem dX8_says_35 : decode cX8_says 35 = .ok (.bipush (-2), 2) := dX8_says_r29.2.2.2.2.1
theorem dX8_says_37 : decode cX8_says 37 = .ok (.invokevirtual 115, 3) := dX8_says_r29.2.2.2.2.2.1
theorem dX8_says_40 : decode cX8_says 40 = .ok (.ireturn, 1) := dX8_says_r29.2.2.2.2.2.2.1
theorem dX8_says_41 : decode cX8_says 41 = .ok (.aload_n 0, 1) := dX8_says_r29.2.2.2.2.2.2.2.1
theorem dX8_says_42 : decode cX8_says 42 = .ok (.getfield 56, 3) := dX8_says_r29.2.2.2.2.2.2.2.2.1
theorem dX8_says_45 : decode cX8_says 45 = .ok (.iload_n 1, 1) := dX8_says_r29.2.2.2.2.2.2.2.2.2.1
theorem dX8_says_46 : decode cX8_says 46 = .ok (.iaload, 1) := dX8_says_r29.2.2.2.2.2.2.2.2.2.2.1
theorem dX8_says_47 : decode cX8_says 47 = .ok (.ifCond .ne 10, 3) := dX8_says_r29.2.2.2.2.2.2.2.2.2.2.2.1
theorem dX8_says_50 : decode cX8_says 50 = .ok (.aload_n 0, 1) := dX8_says_r29.2.2.2.2.2.2.2.2.2.2.2.2.1
theorem dX8_says_51 : decode cX8_says 51 = .ok (.bipush (-3), 2) := dX8_says_r29.2.2.2.2.2.2.2.2.2.2.2.2.2.1
theorem dX8_says_53 : decode cX8_says 53 = .ok (.invokevirtual 115, 3) := dX8_says_r29.2.2.2.2.2.2.2.2.2.2.2.2.2.2.1
theorem dX8_says_56 : decode cX8_says 56 = .ok (.ireturn, 1) := dX8_says_r29.2.2.2.2.2.2.2.2.2.2.2.2.2.2.2.1
theorem dX8_says_r57 : zdcP cX8_says 57 [(.aload_n 0, 1), (.getfield 65, 3), (.iload_n 1, 1), (.iaload, 1), (.istore_n 3, 1), (.aload_n 0, 1), (.getfield 47, 3), (.iload_n 3, 1), (.iaload, 1), (.istore 4, 2), (.iload_n 2, 1), (.iconst 1, 1), (.if_icmp .ne 9, 3), (.iload 4, 2), (.iconst 3, 1), (.if_icmp .eq 26, 3)] := zdcA_ok (by decide +kernel)
theorem dX8_says_57 : decode cX8_says 57 = .ok (.aload_n 0, 1) := dX8_says_r57.1
theorem dX8_says_58 : decode cX8_says 58 = .ok (.getfield 65, 3) := dX8_says_r57.2.1
theorem dX8_says_61 : decode cX8_says 61 = .ok (.iload_n 1, 1) := dX8_says_r57.2.2.1
theorem dX8_says_62 : decode cX8_says 62 = .ok (.iaload, 1) := dX8_says_r57.2.2.2.1
theorem dX8_says_63 : decode cX8_says 63 = .ok (.istore_n 3, 1) := dX8_says_r57.2.2.2.2.1
theorem dX8_says_64 : decode cX8_says 64 = .ok (.aload_n 0, 1) := dX8_says_r57.2.2.2.2.2.1
theorem dX8_says_65 : decode cX8_says 65 = .ok (.getfield 47, 3) := dX8_says_r57.2.2.2.2.2.2.1
theorem dX8_says_68 : decode cX8_says 68 = .ok (.iload_n 3, 1) := dX8_says_r57.2.2.2.2.2.2.2.1
theorem dX8_says_69 : decode cX8_says 69 = .ok (.iaload, 1) := dX8_says_r57.2.2.2.2.2.2.2.2.1
theorem dX8_says_70 : decode cX8_says 70 = .ok (.istore 4, 2) := dX8_says_r57.2.2.2.2.2.2.2.2.2.1
theorem dX8_says_72 : decode cX8_says 72 = .ok (.iload_n 2, 1) := dX8_says_r57.2.2.2.2.2.2.2.2.2.2.1
theorem dX8_says_73 : decode cX8_says 73 = .ok (.iconst 1, 1) := dX8_says_r57.2.2.2.2.2.2.2.2.2.2.2.1
theorem dX8_says_74 : decode cX8_says 74 = .ok (.if_icmp .ne 9, 3) := dX8_says_r57.2.2.2.2.2.2.2.2.2.2.2.2.1
theorem dX8_says_77 : decode cX8_says 77 = .ok (.iload 4, 2) := dX8_says_r57.2.2.2.2.2.2.2.2.2.2.2.2.2.1
theorem dX8_says_79 : decode cX8_says 79 = .ok (.iconst 3, 1) := dX8_says_r57.2.2.2.2.2.2.2.2.2.2.2.2.2.2.1
theorem dX8_says_80 : decode cX8_says 80 = .ok (.if_icmp .eq 26, 3) := dX8_says_r57.2.2.2.2.2.2.2.2.2.2.2.2.2.2.2.1
theorem dX8_says_r83 : zdcP cX8_says 83 [(.iload_n 2, 1), (.iconst 2, 1), (.if_icmp .ne 9, 3), (.iload 4, 2), (.iconst 5, 1), (.if_icmp .eq 15, 3), (.iload_n 2, 1), (.iconst 4, 1), (.if_icmp .ne 14, 3), (.iload 4, 2), (.bipush 6, 2), (.if_icmp .ne 7, 3), (.iconst 1, 1), (.goto 4, 3), (.iconst 0, 1), (.istore 5, 2)] := zdcA_ok (by decide +kernel)
theorem dX8_says_83 : decode cX8_says 83 = .ok (.iload_n 2, 1) := dX8_says_r83.1
theorem dX8_says_84 : decode cX8_says 84 = .ok (.iconst 2, 1) := dX8_says_r83.2.1
theorem dX8_says_85 : decode cX8_says 85 = .ok (.if_icmp .ne 9, 3) := dX8_says_r83.2.2.1
theorem dX8_says_88 : decode cX8_says 88 = .ok (.iload 4, 2) := dX8_says_r83.2.2.2.1
theorem dX8_says_90 : decode cX8_says 90 = .ok (.iconst 5, 1) := dX8_says_r83.2.2.2.2.1
theorem dX8_says_91 : decode cX8_says 91 = .ok (.if_icmp .eq 15, 3) := dX8_says_r83.2.2.2.2.2.1
theorem dX8_says_94 : decode cX8_says 94 = .ok (.iload_n 2, 1) := dX8_says_r83.2.2.2.2.2.2.1
theorem dX8_says_95 : decode cX8_says 95 = .ok (.iconst 4, 1) := dX8_says_r83.2.2.2.2.2.2.2.1
theorem dX8_says_96 : decode cX8_says 96 = .ok (.if_icmp .ne 14, 3) := dX8_says_r83.2.2.2.2.2.2.2.2.1
theorem dX8_says_99 : decode cX8_says 99 = .ok (.iload 4, 2) := dX8_says_r83.2.2.2.2.2.2.2.2.2.1
theorem dX8_says_101 : decode cX8_says 101 = .ok (.bipush 6, 2) := dX8_says_r83.2.2.2.2.2.2.2.2.2.2.1
theorem dX8_says_103 : decode cX8_says 103 = .ok (.if_icmp .ne 7, 3) := dX8_says_r83.2.2.2.2.2.2.2.2.2.2.2.1
theorem dX8_says_106 : decode cX8_says 106 = .ok (.iconst 1, 1) := dX8_says_r83.2.2.2.2.2.2.2.2.2.2.2.2.1
theorem dX8_says_107 : decode cX8_says 107 = .ok (.goto 4, 3) := dX8_says_r83.2.2.2.2.2.2.2.2.2.2.2.2.2.1
theorem dX8_says_110 : decode cX8_says 110 = .ok (.iconst 0, 1) := dX8_says_r83.2.2.2.2.2.2.2.2.2.2.2.2.2.2.1
theorem dX8_says_111 : decode cX8_says 111 = .ok (.istore 5, 2) := dX8_says_r83.2.2.2.2.2.2.2.2.2.2.2.2.2.2.2.1
theorem dX8_says_r113 : zdcP cX8_says 113 [(.iload_n 2, 1), (.ifCond .eq 21, 3), (.iload_n 2, 1), (.iload 4, 2), (.if_icmp .eq 15, 3), (.iload 5, 2), (.ifCond .ne 10, 3), (.aload_n 0, 1), (.bipush (-2), 2), (.invokevirtual 115, 3), (.ireturn, 1), (.iload_n 2, 1)] := zdcA_ok (by decide +kernel)
theorem dX8_says_113 : decode cX8_says 113 = .ok (.iload_n 2, 1) := dX8_says_r113.1
theorem dX8_says_114 : decode cX8_says 114 = .ok (.ifCond .eq 21, 3) := dX8_says_r113.2.1
theorem dX8_says_117 : decode cX8_says 117 = .ok (.iload_n 2, 1) := dX8_says_r113.2.2.1
theorem dX8_says_118 : decode cX8_says 118 = .ok (.iload 4, 2) := dX8_says_r113.2.2.2.1
theorem dX8_says_120 : decode cX8_says 120 = .ok (.if_icmp .eq 15, 3) := dX8_says_r113.2.2.2.2.1
theorem dX8_says_123 : decode cX8_says 123 = .ok (.iload 5, 2) := dX8_says_r113.2.2.2.2.2.1
theorem dX8_says_125 : decode cX8_says 125 = .ok (.ifCond .ne 10, 3) := dX8_says_r113.2.2.2.2.2.2.1
theorem dX8_says_128 : decode cX8_says 128 = .ok (.aload_n 0, 1) := dX8_says_r113.2.2.2.2.2.2.2.1
theorem dX8_says_129 : decode cX8_says 129 = .ok (.bipush (-2), 2) := dX8_says_r113.2.2.2.2.2.2.2.2.1
theorem dX8_says_131 : decode cX8_says 131 = .ok (.invokevirtual 115, 3) := dX8_says_r113.2.2.2.2.2.2.2.2.2.1
theorem dX8_says_134 : decode cX8_says 134 = .ok (.ireturn, 1) := dX8_says_r113.2.2.2.2.2.2.2.2.2.2.1
theorem dX8_says_135 : decode cX8_says 135 = .ok (.iload_n 2, 1) := dX8_says_r113.2.2.2.2.2.2.2.2.2.2.2.1
theorem dX8_says_136 : decode cX8_says 136 = .ok (.tableswitch 72 0 5 #[40, 47, 59, 47, 72, 59], 40) := by decide +kernel
theorem dX8_says_r176 : zdcP cX8_says 176 [(.aload_n 0, 1), (.getfield 53, 3), (.iload_n 3, 1), (.iaload, 1), (.ireturn, 1), (.iload 4, 2), (.iconst 3, 1), (.if_icmp .ne 7, 3), (.iconst 3, 1), (.goto 4, 3), (.iconst 2, 1), (.ireturn, 1), (.aload_n 0, 1), (.invokevirtual 122, 3), (.ifCond .eq 7, 3), (.iconst 1, 1)] := zdcA_ok (by decide +kernel)
theorem dX8_says_176 : decode cX8_says 176 = .ok (.aload_n 0, 1) := dX8_says_r176.1
theorem dX8_says_177 : decode cX8_says 177 = .ok (.getfield 53, 3) := dX8_says_r176.2.1
theorem dX8_says_180 : decode cX8_says 180 = .ok (.iload_n 3, 1) := dX8_says_r176.2.2.1
theorem dX8_says_181 : decode cX8_says 181 = .ok (.iaload, 1) := dX8_says_r176.2.2.2.1
theorem dX8_says_182 : decode cX8_says 182 = .ok (.ireturn, 1) := dX8_says_r176.2.2.2.2.1
theorem dX8_says_183 : decode cX8_says 183 = .ok (.iload 4, 2) := dX8_says_r176.2.2.2.2.2.1
theorem dX8_says_185 : decode cX8_says 185 = .ok (.iconst 3, 1) := dX8_says_r176.2.2.2.2.2.2.1
theorem dX8_says_186 : decode cX8_says 186 = .ok (.if_icmp .ne 7, 3) := dX8_says_r176.2.2.2.2.2.2.2.1
theorem dX8_says_189 : decode cX8_says 189 = .ok (.iconst 3, 1) := dX8_says_r176.2.2.2.2.2.2.2.2.1
theorem dX8_says_190 : decode cX8_says 190 = .ok (.goto 4, 3) := dX8_says_r176.2.2.2.2.2.2.2.2.2.1
theorem dX8_says_193 : decode cX8_says 193 = .ok (.iconst 2, 1) := dX8_says_r176.2.2.2.2.2.2.2.2.2.2.1
theorem dX8_says_194 : decode cX8_says 194 = .ok (.ireturn, 1) := dX8_says_r176.2.2.2.2.2.2.2.2.2.2.2.1
theorem dX8_says_195 : decode cX8_says 195 = .ok (.aload_n 0, 1) := dX8_says_r176.2.2.2.2.2.2.2.2.2.2.2.2.1
theorem dX8_says_196 : decode cX8_says 196 = .ok (.invokevirtual 122, 3) := dX8_says_r176.2.2.2.2.2.2.2.2.2.2.2.2.2.1
theorem dX8_says_199 : decode cX8_says 199 = .ok (.ifCond .eq 7, 3) := dX8_says_r176.2.2.2.2.2.2.2.2.2.2.2.2.2.2.1
theorem dX8_says_202 : decode cX8_says 202 = .ok (.iconst 1, 1) := dX8_says_r176.2.2.2.2.2.2.2.2.2.2.2.2.2.2.2.1
theorem dX8_says_r203 : zdcP cX8_says 203 [(.goto 4, 3), (.iconst 0, 1), (.ireturn, 1), (.aload_n 0, 1), (.iload_n 3, 1), (.iconst 0, 1), (.invokevirtual 126, 3), (.ireturn, 1)] := zdcA_ok (by decide +kernel)
theorem dX8_says_203 : decode cX8_says 203 = .ok (.goto 4, 3) := dX8_says_r203.1
theorem dX8_says_206 : decode cX8_says 206 = .ok (.iconst 0, 1) := dX8_says_r203.2.1
theorem dX8_says_207 : decode cX8_says 207 = .ok (.ireturn, 1) := dX8_says_r203.2.2.1
theorem dX8_says_208 : decode cX8_says 208 = .ok (.aload_n 0, 1) := dX8_says_r203.2.2.2.1
theorem dX8_says_209 : decode cX8_says 209 = .ok (.iload_n 3, 1) := dX8_says_r203.2.2.2.2.1
theorem dX8_says_210 : decode cX8_says 210 = .ok (.iconst 0, 1) := dX8_says_r203.2.2.2.2.2.1
theorem dX8_says_211 : decode cX8_says 211 = .ok (.invokevirtual 126, 3) := dX8_says_r203.2.2.2.2.2.2.1
theorem dX8_says_214 : decode cX8_says 214 = .ok (.ireturn, 1) := dX8_says_r203.2.2.2.2.2.2.2.1
def wq_136_135 (v1 : Int32) (v2 : Int32) (v3 : Int32) (v4 : Int32) (m : zf_Me) (Q : Int32 → zf_Me → Prop) : Prop := (((v2.toInt < 0 ∨ v2.toInt > 5) → wp_165 v3 0 m (fun x7 m8 => Q x7 m8)) ∧ (v2.toInt = 0 → ((0 ≤ (Int32.toInt v3) ∧ (Int32.toInt v3) < (6 : Int)) ∧ Q (m.1 69 (Int32.toInt v3).toNat) m)) ∧ (v2.toInt = 1 → ((¬ v4.toInt = 3 → Q 2 m) ∧ (v4.toInt = 3 → Q 3 m))) ∧ (v2.toInt = 2 → wp_164 m (fun b9 m10 => ((b9 = false → Q 0 m10) ∧ (b9 = true → Q 1 m10)))) ∧ (v2.toInt = 3 → ((¬ v4.toInt = 3 → Q 2 m) ∧ (v4.toInt = 3 → Q 3 m))) ∧ (v2.toInt = 4 → wp_165 v3 0 m (fun x11 m12 => Q x11 m12)) ∧ (v2.toInt = 5 → wp_164 m (fun b13 m14 => ((b13 = false → Q 0 m14) ∧ (b13 = true → Q 1 m14)))))
theorem zq_136_135 {d : Nat} (hd : 1 ≤ d) {v1 : Int32} {v2 : Int32} {Q : Int32 → zf_Me → Prop} {v3 : Int32} {v4 : Int32} {m : zf_Me} (h : wq_136_135 v1 v2 v3 v4 m Q) : zf_W none 0 0 d zt_136 135 [some (.inr (.inr (1, 63))), none, some (.inl v2), some (.inl v3), some (.inl v4), none] [] m (zf_I Q) := by
  obtain ⟨e, rfl⟩ : ∃ z, d = z + 1 := ⟨d - 1, by omega⟩
  unfold wq_136_135 at h
  refine zf_ld (pc' := 136) (v := .inl v2) dX8_says_135 rfl (fun _ _ _ => rfl) rfl rfl rfl ?_
  refine zf_tsc (tgd := 208) dX8_says_136 rfl [176, 183, 195, 183, 208, 195] (by decide) (by decide) (fun g => ?_) (zl_cons (fun g => ?_) (zl_cons (fun g => ?_) (zl_cons (fun g => ?_) (zl_cons (fun g => ?_) (zl_cons (fun g => ?_) (zl_cons (fun g => ?_) (zl_nil)))))))
  · replace h := h.1 (by omega)
    refine zf_ld (pc' := 209) (v := .inr (.inr (1, 63))) dX8_says_208 rfl (fun _ _ _ => rfl) rfl rfl rfl ?_
    refine zf_ld (pc' := 210) (v := .inl v3) dX8_says_209 rfl (fun _ _ _ => rfl) rfl rfl rfl ?_
    refine zf_ic (v := 0) (pc' := 211) dX8_says_210 rfl rfl ?_
    refine zf_iv (k := 165) (pc' := 214) (r := []) dX8_says_211 rfl rfl rfl rfl (by decide) rfl rfl rfl (zr_165 (by omega) h) (zf_kI (fun x7 m8 h => ?_))
    exact zf_ri dX8_says_214 rfl h
  · replace h := h.2.1 (by omega)
    refine zf_ld (pc' := 177) (v := .inr (.inr (1, 63))) dX8_says_176 rfl (fun _ _ _ => rfl) rfl rfl rfl ?_
    refine zf_gfr (pc' := 180) (b := 69) dX8_says_177 rfl rfl (by decide) rfl rfl ?_
    refine zf_ld (pc' := 181) (v := .inl v3) dX8_says_180 rfl (fun _ _ _ => rfl) rfl rfl rfl ?_
    refine zf_ial (pc' := 182) dX8_says_181 rfl (⟨by decide, rfl⟩ : zf_arr 69 6).1 (⟨by decide, rfl⟩ : zf_arr 69 6).2 h.1 rfl ?_
    replace h := h.2
    exact zf_ri dX8_says_182 rfl h
  · replace h := h.2.2.1 (by omega)
    refine zf_ld (pc' := 185) (v := .inl v4) dX8_says_183 rfl (fun _ _ _ => rfl) rfl rfl rfl ?_
    refine zf_ic (v := 3) (pc' := 186) dX8_says_185 rfl rfl ?_
    refine zf_icmp_ne (tgt := 193) (pc' := 189) dX8_says_186 rfl rfl (fun g => ?_) (fun g => ?_)
    · replace h := h.1 g
      refine zf_ic (v := 2) (pc' := 194) dX8_says_193 rfl rfl ?_
      exact zf_ri dX8_says_194 rfl h
    · replace h := h.2 g
      refine zf_ic (v := 3) (pc' := 190) dX8_says_189 rfl rfl ?_
      refine zf_goto (tgt := 194) dX8_says_190 rfl ?_
      exact zf_ri dX8_says_194 rfl h
  · replace h := h.2.2.2.1 (by omega)
    refine zf_ld (pc' := 196) (v := .inr (.inr (1, 63))) dX8_says_195 rfl (fun _ _ _ => rfl) rfl rfl rfl ?_
    refine zf_iv (k := 164) (pc' := 199) (r := []) dX8_says_196 rfl rfl rfl rfl (by decide) rfl rfl rfl (zr_164 (by omega) h) (zf_kB (fun b9 m10 h => ?_))
    refine zf_ib_eq (tgt := 206) (pc' := 202) dX8_says_199 rfl rfl (fun g => ?_) (fun g => ?_)
    · replace h := h.1 g
      refine zf_ic (v := 0) (pc' := 207) dX8_says_206 rfl rfl ?_
      exact zf_ri dX8_says_207 rfl h
    · replace h := h.2 g
      refine zf_ic (v := 1) (pc' := 203) dX8_says_202 rfl rfl ?_
      refine zf_goto (tgt := 207) dX8_says_203 rfl ?_
      exact zf_ri dX8_says_207 rfl h
  · replace h := h.2.2.2.2.1 (by omega)
    refine zf_ld (pc' := 185) (v := .inl v4) dX8_says_183 rfl (fun _ _ _ => rfl) rfl rfl rfl ?_
    refine zf_ic (v := 3) (pc' := 186) dX8_says_185 rfl rfl ?_
    refine zf_icmp_ne (tgt := 193) (pc' := 189) dX8_says_186 rfl rfl (fun g => ?_) (fun g => ?_)
    · replace h := h.1 g
      refine zf_ic (v := 2) (pc' := 194) dX8_says_193 rfl rfl ?_
      exact zf_ri dX8_says_194 rfl h
    · replace h := h.2 g
      refine zf_ic (v := 3) (pc' := 190) dX8_says_189 rfl rfl ?_
      refine zf_goto (tgt := 194) dX8_says_190 rfl ?_
      exact zf_ri dX8_says_194 rfl h
  · replace h := h.2.2.2.2.2.1 (by omega)
    refine zf_ld (pc' := 209) (v := .inr (.inr (1, 63))) dX8_says_208 rfl (fun _ _ _ => rfl) rfl rfl rfl ?_
    refine zf_ld (pc' := 210) (v := .inl v3) dX8_says_209 rfl (fun _ _ _ => rfl) rfl rfl rfl ?_
    refine zf_ic (v := 0) (pc' := 211) dX8_says_210 rfl rfl ?_
    refine zf_iv (k := 165) (pc' := 214) (r := []) dX8_says_211 rfl rfl rfl rfl (by decide) rfl rfl rfl (zr_165 (by omega) h) (zf_kI (fun x11 m12 h => ?_))
    exact zf_ri dX8_says_214 rfl h
  · replace h := h.2.2.2.2.2.2 (by omega)
    refine zf_ld (pc' := 196) (v := .inr (.inr (1, 63))) dX8_says_195 rfl (fun _ _ _ => rfl) rfl rfl rfl ?_
    refine zf_iv (k := 164) (pc' := 199) (r := []) dX8_says_196 rfl rfl rfl rfl (by decide) rfl rfl rfl (zr_164 (by omega) h) (zf_kB (fun b13 m14 h => ?_))
    refine zf_ib_eq (tgt := 206) (pc' := 202) dX8_says_199 rfl rfl (fun g => ?_) (fun g => ?_)
    · replace h := h.1 g
      refine zf_ic (v := 0) (pc' := 207) dX8_says_206 rfl rfl ?_
      exact zf_ri dX8_says_207 rfl h
    · replace h := h.2 g
      refine zf_ic (v := 1) (pc' := 203) dX8_says_202 rfl rfl ?_
      refine zf_goto (tgt := 207) dX8_says_203 rfl ?_
      exact zf_ri dX8_says_207 rfl h
def wq_136_111 (v1 : Int32) (v2 : Int32) (v3 : Int32) (v4 : Int32) (u0 : Int32) (m : zf_Me) (Q : Int32 → zf_Me → Prop) : Prop := ((v2.toInt = 0 → wq_136_135 v1 v2 v3 v4 m Q) ∧ (¬ v2.toInt = 0 → ((v2.toInt = v4.toInt → wq_136_135 v1 v2 v3 v4 m Q) ∧ (¬ v2.toInt = v4.toInt → ((¬ u0.toInt = 0 → wq_136_135 v1 v2 v3 v4 m Q) ∧ (u0.toInt = 0 → wp_125 (-2) m (fun x15 m16 => Q x15 m16)))))))
theorem zq_136_111 {d : Nat} (hd : 1 ≤ d) {v1 : Int32} {v2 : Int32} {Q : Int32 → zf_Me → Prop} {v3 : Int32} {v4 : Int32} {u0 : Int32} {m : zf_Me} (h : wq_136_111 v1 v2 v3 v4 u0 m Q) : zf_W none 0 0 d zt_136 111 [some (.inr (.inr (1, 63))), none, some (.inl v2), some (.inl v3), some (.inl v4), none] [.inl u0] m (zf_I Q) := by
  obtain ⟨e, rfl⟩ : ∃ z, d = z + 1 := ⟨d - 1, by omega⟩
  unfold wq_136_111 at h
  refine zf_st (pc' := 113) (L2 := [some (.inr (.inr (1, 63))), none, some (.inl v2), some (.inl v3), some (.inl v4), some (.inl u0)]) dX8_says_111 rfl (fun _ _ _ => rfl) rfl rfl rfl rfl rfl rfl ?_
  refine zf_ld (pc' := 114) (v := .inl v2) dX8_says_113 rfl (fun _ _ _ => rfl) rfl rfl rfl ?_
  refine zf_if_eq (tgt := 135) (pc' := 117) dX8_says_114 rfl rfl (fun g => ?_) (fun g => ?_)
  · replace h := h.1 g
    exact zf_lo (zq_136_135 (by omega) h) ⟨rfl, rfl, rfl, rfl, trivial⟩
  · replace h := h.2 g
    refine zf_ld (pc' := 118) (v := .inl v2) dX8_says_117 rfl (fun _ _ _ => rfl) rfl rfl rfl ?_
    refine zf_ld (pc' := 120) (v := .inl v4) dX8_says_118 rfl (fun _ _ _ => rfl) rfl rfl rfl ?_
    refine zf_icmp_eq (tgt := 135) (pc' := 123) dX8_says_120 rfl rfl (fun g => ?_) (fun g => ?_)
    · replace h := h.1 g
      exact zf_lo (zq_136_135 (by omega) h) ⟨rfl, rfl, rfl, rfl, trivial⟩
    · replace h := h.2 g
      refine zf_ld (pc' := 125) (v := .inl u0) dX8_says_123 rfl (fun _ _ _ => rfl) rfl rfl rfl ?_
      refine zf_if_ne (tgt := 135) (pc' := 128) dX8_says_125 rfl rfl (fun g => ?_) (fun g => ?_)
      · replace h := h.1 g
        exact zf_lo (zq_136_135 (by omega) h) ⟨rfl, rfl, rfl, rfl, trivial⟩
      · replace h := h.2 g
        refine zf_ld (pc' := 129) (v := .inr (.inr (1, 63))) dX8_says_128 rfl (fun _ _ _ => rfl) rfl rfl rfl ?_
        refine zf_bi (v := (-2)) (pc' := 131) dX8_says_129 rfl rfl ?_
        refine zf_iv (k := 125) (pc' := 134) (r := []) dX8_says_131 rfl rfl rfl rfl (by decide) rfl rfl rfl (zr_125 (by omega) h) (zf_kI (fun x15 m16 h => ?_))
        exact zf_ri dX8_says_134 rfl h
def wq_136_110 (v1 : Int32) (v2 : Int32) (v3 : Int32) (v4 : Int32) (m : zf_Me) (Q : Int32 → zf_Me → Prop) : Prop := wq_136_111 v1 v2 v3 v4 0 m Q
theorem zq_136_110 {d : Nat} (hd : 1 ≤ d) {v1 : Int32} {v2 : Int32} {Q : Int32 → zf_Me → Prop} {v3 : Int32} {v4 : Int32} {m : zf_Me} (h : wq_136_110 v1 v2 v3 v4 m Q) : zf_W none 0 0 d zt_136 110 [some (.inr (.inr (1, 63))), none, some (.inl v2), some (.inl v3), some (.inl v4), none] [] m (zf_I Q) := by
  unfold wq_136_110 at h
  refine zf_ic (v := 0) (pc' := 111) dX8_says_110 rfl rfl ?_
  exact zf_lo (zq_136_111 (by omega) h) ⟨rfl, rfl, rfl, rfl, trivial⟩
def wq_136_106 (v1 : Int32) (v2 : Int32) (v3 : Int32) (v4 : Int32) (m : zf_Me) (Q : Int32 → zf_Me → Prop) : Prop := wq_136_111 v1 v2 v3 v4 1 m Q
theorem zq_136_106 {d : Nat} (hd : 1 ≤ d) {v1 : Int32} {v2 : Int32} {Q : Int32 → zf_Me → Prop} {v3 : Int32} {v4 : Int32} {m : zf_Me} (h : wq_136_106 v1 v2 v3 v4 m Q) : zf_W none 0 0 d zt_136 106 [some (.inr (.inr (1, 63))), none, some (.inl v2), some (.inl v3), some (.inl v4), none] [] m (zf_I Q) := by
  unfold wq_136_106 at h
  refine zf_ic (v := 1) (pc' := 107) dX8_says_106 rfl rfl ?_
  refine zf_goto (tgt := 111) dX8_says_107 rfl ?_
  exact zf_lo (zq_136_111 (by omega) h) ⟨rfl, rfl, rfl, rfl, trivial⟩
def wq_136_94 (v1 : Int32) (v2 : Int32) (v3 : Int32) (v4 : Int32) (m : zf_Me) (Q : Int32 → zf_Me → Prop) : Prop := ((¬ v2.toInt = 4 → wq_136_110 v1 v2 v3 v4 m Q) ∧ (v2.toInt = 4 → ((¬ v4.toInt = 6 → wq_136_110 v1 v2 v3 v4 m Q) ∧ (v4.toInt = 6 → wq_136_106 v1 v2 v3 v4 m Q))))
theorem zq_136_94 {d : Nat} (hd : 1 ≤ d) {v1 : Int32} {v2 : Int32} {Q : Int32 → zf_Me → Prop} {v3 : Int32} {v4 : Int32} {m : zf_Me} (h : wq_136_94 v1 v2 v3 v4 m Q) : zf_W none 0 0 d zt_136 94 [some (.inr (.inr (1, 63))), none, some (.inl v2), some (.inl v3), some (.inl v4), none] [] m (zf_I Q) := by
  unfold wq_136_94 at h
  refine zf_ld (pc' := 95) (v := .inl v2) dX8_says_94 rfl (fun _ _ _ => rfl) rfl rfl rfl ?_
  refine zf_ic (v := 4) (pc' := 96) dX8_says_95 rfl rfl ?_
  refine zf_icmp_ne (tgt := 110) (pc' := 99) dX8_says_96 rfl rfl (fun g => ?_) (fun g => ?_)
  · replace h := h.1 g
    exact zf_lo (zq_136_110 (by omega) h) ⟨rfl, rfl, rfl, rfl, trivial⟩
  · replace h := h.2 g
    refine zf_ld (pc' := 101) (v := .inl v4) dX8_says_99 rfl (fun _ _ _ => rfl) rfl rfl rfl ?_
    refine zf_bi (v := 6) (pc' := 103) dX8_says_101 rfl rfl ?_
    refine zf_icmp_ne (tgt := 110) (pc' := 106) dX8_says_103 rfl rfl (fun g => ?_) (fun g => ?_)
    · replace h := h.1 g
      exact zf_lo (zq_136_110 (by omega) h) ⟨rfl, rfl, rfl, rfl, trivial⟩
    · replace h := h.2 g
      exact zf_lo (zq_136_106 (by omega) h) ⟨rfl, rfl, rfl, rfl, trivial⟩
def wq_136_83 (v1 : Int32) (v2 : Int32) (v3 : Int32) (v4 : Int32) (m : zf_Me) (Q : Int32 → zf_Me → Prop) : Prop := ((¬ v2.toInt = 2 → wq_136_94 v1 v2 v3 v4 m Q) ∧ (v2.toInt = 2 → ((v4.toInt = 5 → wq_136_106 v1 v2 v3 v4 m Q) ∧ (¬ v4.toInt = 5 → wq_136_94 v1 v2 v3 v4 m Q))))
theorem zq_136_83 {d : Nat} (hd : 1 ≤ d) {v1 : Int32} {v2 : Int32} {Q : Int32 → zf_Me → Prop} {v3 : Int32} {v4 : Int32} {m : zf_Me} (h : wq_136_83 v1 v2 v3 v4 m Q) : zf_W none 0 0 d zt_136 83 [some (.inr (.inr (1, 63))), none, some (.inl v2), some (.inl v3), some (.inl v4), none] [] m (zf_I Q) := by
  unfold wq_136_83 at h
  refine zf_ld (pc' := 84) (v := .inl v2) dX8_says_83 rfl (fun _ _ _ => rfl) rfl rfl rfl ?_
  refine zf_ic (v := 2) (pc' := 85) dX8_says_84 rfl rfl ?_
  refine zf_icmp_ne (tgt := 94) (pc' := 88) dX8_says_85 rfl rfl (fun g => ?_) (fun g => ?_)
  · replace h := h.1 g
    exact zf_lo (zq_136_94 (by omega) h) ⟨rfl, rfl, rfl, rfl, trivial⟩
  · replace h := h.2 g
    refine zf_ld (pc' := 90) (v := .inl v4) dX8_says_88 rfl (fun _ _ _ => rfl) rfl rfl rfl ?_
    refine zf_ic (v := 5) (pc' := 91) dX8_says_90 rfl rfl ?_
    refine zf_icmp_eq (tgt := 106) (pc' := 94) dX8_says_91 rfl rfl (fun g => ?_) (fun g => ?_)
    · replace h := h.1 g
      exact zf_lo (zq_136_106 (by omega) h) ⟨rfl, rfl, rfl, rfl, trivial⟩
    · replace h := h.2 g
      exact zf_lo (zq_136_94 (by omega) h) ⟨rfl, rfl, rfl, rfl, trivial⟩
def wp_136 (v1 : Int32) (v2 : Int32) (m : zf_Me) (Q : Int32 → zf_Me → Prop) : Prop := wp_127 v1 m (fun b1 m2 => ((b1 = false → wp_125 (-1) m2 (fun x3 m4 => Q x3 m4)) ∧ (b1 = true → ((v2.toInt < 0 → wp_125 (-1) m2 (fun x5 m6 => Q x5 m6)) ∧ (v2.toInt ≥ 0 → ((v2.toInt ≤ 6 → ((0 ≤ (Int32.toInt v1) ∧ (Int32.toInt v1) < (8 : Int)) ∧ ((¬ ((m2.1 70 (Int32.toInt v1).toNat)).toInt = 1 → ((0 ≤ (Int32.toInt v1) ∧ (Int32.toInt v1) < (8 : Int)) ∧ ((¬ ((m2.1 70 (Int32.toInt v1).toNat)).toInt = 0 → ((0 ≤ (Int32.toInt v1) ∧ (Int32.toInt v1) < (8 : Int)) ∧ ((0 ≤ (Int32.toInt (m2.1 73 (Int32.toInt v1).toNat)) ∧ (Int32.toInt (m2.1 73 (Int32.toInt v1).toNat)) < (6 : Int)) ∧ ((¬ v2.toInt = 1 → wq_136_83 v1 v2 (m2.1 73 (Int32.toInt v1).toNat) (m2.1 67 (Int32.toInt (m2.1 73 (Int32.toInt v1).toNat)).toNat) m2 Q) ∧ (v2.toInt = 1 → ((((m2.1 67 (Int32.toInt (m2.1 73 (Int32.toInt v1).toNat)).toNat)).toInt = 3 → wq_136_106 v1 v2 (m2.1 73 (Int32.toInt v1).toNat) (m2.1 67 (Int32.toInt (m2.1 73 (Int32.toInt v1).toNat)).toNat) m2 Q) ∧ (¬ ((m2.1 67 (Int32.toInt (m2.1 73 (Int32.toInt v1).toNat)).toNat)).toInt = 3 → wq_136_83 v1 v2 (m2.1 73 (Int32.toInt v1).toNat) (m2.1 67 (Int32.toInt (m2.1 73 (Int32.toInt v1).toNat)).toNat) m2 Q))))))) ∧ (((m2.1 70 (Int32.toInt v1).toNat)).toInt = 0 → wp_125 (-3) m2 (fun x17 m18 => Q x17 m18))))) ∧ (((m2.1 70 (Int32.toInt v1).toNat)).toInt = 1 → wp_125 (-2) m2 (fun x19 m20 => Q x19 m20))))) ∧ (v2.toInt > 6 → wp_125 (-1) m2 (fun x21 m22 => Q x21 m22))))))))
theorem zr_136 {d : Nat} (hd : 1 ≤ d) {v1 : Int32} {v2 : Int32} {Q : Int32 → zf_Me → Prop} {m : zf_Me} (h : wp_136 v1 v2 m Q) : zf_M d 136 [.inr (.inr (1, 63)), .inl v1, .inl v2] m (zf_I Q) := by
  obtain ⟨e, rfl⟩ : ∃ z, d = z + 1 := ⟨d - 1, by omega⟩
  unfold wp_136 at h
  refine zf_M_of (Nat.le_of_ble_eq_true rfl) zm_136 (L := [some (.inr (.inr (1, 63))), some (.inl v1), some (.inl v2), none, none, none]) rfl ?_
  refine zf_ld (pc' := 1) (v := .inr (.inr (1, 63))) dX8_says_0 rfl (fun _ _ _ => rfl) rfl rfl rfl ?_
  refine zf_ld (pc' := 2) (v := .inl v1) dX8_says_1 rfl (fun _ _ _ => rfl) rfl rfl rfl ?_
  refine zf_iv (k := 127) (pc' := 5) (r := []) dX8_says_2 rfl rfl rfl rfl (by decide) rfl rfl rfl (zr_127 (by omega) h) (zf_kB (fun b1 m2 h => ?_))
  refine zf_ib_eq (tgt := 18) (pc' := 8) dX8_says_5 rfl rfl (fun g => ?_) (fun g => ?_)
  · replace h := h.1 g
    refine zf_ld (pc' := 19) (v := .inr (.inr (1, 63))) dX8_says_18 rfl (fun _ _ _ => rfl) rfl rfl rfl ?_
    refine zf_ic (v := (-1)) (pc' := 20) dX8_says_19 rfl rfl ?_
    refine zf_iv (k := 125) (pc' := 23) (r := []) dX8_says_20 rfl rfl rfl rfl (by decide) rfl rfl rfl (zr_125 (by omega) h) (zf_kI (fun x3 m4 h => ?_))
    exact zf_ri dX8_says_23 rfl h
  · replace h := h.2 g
    refine zf_ld (pc' := 9) (v := .inl v2) dX8_says_8 rfl (fun _ _ _ => rfl) rfl rfl rfl ?_
    refine zf_if_lt (tgt := 18) (pc' := 12) dX8_says_9 rfl rfl (fun g => ?_) (fun g => ?_)
    · replace h := h.1 g
      refine zf_ld (pc' := 19) (v := .inr (.inr (1, 63))) dX8_says_18 rfl (fun _ _ _ => rfl) rfl rfl rfl ?_
      refine zf_ic (v := (-1)) (pc' := 20) dX8_says_19 rfl rfl ?_
      refine zf_iv (k := 125) (pc' := 23) (r := []) dX8_says_20 rfl rfl rfl rfl (by decide) rfl rfl rfl (zr_125 (by omega) h) (zf_kI (fun x5 m6 h => ?_))
      exact zf_ri dX8_says_23 rfl h
    · replace h := h.2 g
      refine zf_ld (pc' := 13) (v := .inl v2) dX8_says_12 rfl (fun _ _ _ => rfl) rfl rfl rfl ?_
      refine zf_bi (v := 6) (pc' := 15) dX8_says_13 rfl rfl ?_
      refine zf_icmp_le (tgt := 24) (pc' := 18) dX8_says_15 rfl rfl (fun g => ?_) (fun g => ?_)
      · replace h := h.1 g
        refine zf_ld (pc' := 25) (v := .inr (.inr (1, 63))) dX8_says_24 rfl (fun _ _ _ => rfl) rfl rfl rfl ?_
        refine zf_gfr (pc' := 28) (b := 70) dX8_says_25 rfl rfl (by decide) rfl rfl ?_
        refine zf_ld (pc' := 29) (v := .inl v1) dX8_says_28 rfl (fun _ _ _ => rfl) rfl rfl rfl ?_
        refine zf_ial (pc' := 30) dX8_says_29 rfl (⟨by decide, rfl⟩ : zf_arr 70 8).1 (⟨by decide, rfl⟩ : zf_arr 70 8).2 h.1 rfl ?_
        replace h := h.2
        refine zf_ic (v := 1) (pc' := 31) dX8_says_30 rfl rfl ?_
        refine zf_icmp_ne (tgt := 41) (pc' := 34) dX8_says_31 rfl rfl (fun g => ?_) (fun g => ?_)
        · replace h := h.1 g
          refine zf_ld (pc' := 42) (v := .inr (.inr (1, 63))) dX8_says_41 rfl (fun _ _ _ => rfl) rfl rfl rfl ?_
          refine zf_gfr (pc' := 45) (b := 70) dX8_says_42 rfl rfl (by decide) rfl rfl ?_
          refine zf_ld (pc' := 46) (v := .inl v1) dX8_says_45 rfl (fun _ _ _ => rfl) rfl rfl rfl ?_
          refine zf_ial (pc' := 47) dX8_says_46 rfl (⟨by decide, rfl⟩ : zf_arr 70 8).1 (⟨by decide, rfl⟩ : zf_arr 70 8).2 h.1 rfl ?_
          replace h := h.2
          refine zf_if_ne (tgt := 57) (pc' := 50) dX8_says_47 rfl rfl (fun g => ?_) (fun g => ?_)
          · replace h := h.1 g
            refine zf_ld (pc' := 58) (v := .inr (.inr (1, 63))) dX8_says_57 rfl (fun _ _ _ => rfl) rfl rfl rfl ?_
            refine zf_gfr (pc' := 61) (b := 73) dX8_says_58 rfl rfl (by decide) rfl rfl ?_
            refine zf_ld (pc' := 62) (v := .inl v1) dX8_says_61 rfl (fun _ _ _ => rfl) rfl rfl rfl ?_
            refine zf_ial (pc' := 63) dX8_says_62 rfl (⟨by decide, rfl⟩ : zf_arr 73 8).1 (⟨by decide, rfl⟩ : zf_arr 73 8).2 h.1 rfl ?_
            replace h := h.2
            refine zf_st (pc' := 64) (L2 := [some (.inr (.inr (1, 63))), some (.inl v1), some (.inl v2), some (.inl (m2.1 73 (Int32.toInt v1).toNat)), none, none]) dX8_says_63 rfl (fun _ _ _ => rfl) rfl rfl rfl rfl rfl rfl ?_
            refine zf_ld (pc' := 65) (v := .inr (.inr (1, 63))) dX8_says_64 rfl (fun _ _ _ => rfl) rfl rfl rfl ?_
            refine zf_gfr (pc' := 68) (b := 67) dX8_says_65 rfl rfl (by decide) rfl rfl ?_
            refine zf_ld (pc' := 69) (v := .inl (m2.1 73 (Int32.toInt v1).toNat)) dX8_says_68 rfl (fun _ _ _ => rfl) rfl rfl rfl ?_
            refine zf_ial (pc' := 70) dX8_says_69 rfl (⟨by decide, rfl⟩ : zf_arr 67 6).1 (⟨by decide, rfl⟩ : zf_arr 67 6).2 h.1 rfl ?_
            replace h := h.2
            refine zf_st (pc' := 72) (L2 := [some (.inr (.inr (1, 63))), some (.inl v1), some (.inl v2), some (.inl (m2.1 73 (Int32.toInt v1).toNat)), some (.inl (m2.1 67 (Int32.toInt (m2.1 73 (Int32.toInt v1).toNat)).toNat)), none]) dX8_says_70 rfl (fun _ _ _ => rfl) rfl rfl rfl rfl rfl rfl ?_
            refine zf_ld (pc' := 73) (v := .inl v2) dX8_says_72 rfl (fun _ _ _ => rfl) rfl rfl rfl ?_
            refine zf_ic (v := 1) (pc' := 74) dX8_says_73 rfl rfl ?_
            refine zf_icmp_ne (tgt := 83) (pc' := 77) dX8_says_74 rfl rfl (fun g => ?_) (fun g => ?_)
            · replace h := h.1 g
              exact zf_lo (zq_136_83 (by omega) h) ⟨rfl, rfl, rfl, rfl, trivial⟩
            · replace h := h.2 g
              refine zf_ld (pc' := 79) (v := .inl (m2.1 67 (Int32.toInt (m2.1 73 (Int32.toInt v1).toNat)).toNat)) dX8_says_77 rfl (fun _ _ _ => rfl) rfl rfl rfl ?_
              refine zf_ic (v := 3) (pc' := 80) dX8_says_79 rfl rfl ?_
              refine zf_icmp_eq (tgt := 106) (pc' := 83) dX8_says_80 rfl rfl (fun g => ?_) (fun g => ?_)
              · replace h := h.1 g
                exact zf_lo (zq_136_106 (by omega) h) ⟨rfl, rfl, rfl, rfl, trivial⟩
              · replace h := h.2 g
                exact zf_lo (zq_136_83 (by omega) h) ⟨rfl, rfl, rfl, rfl, trivial⟩
          · replace h := h.2 g
            refine zf_ld (pc' := 51) (v := .inr (.inr (1, 63))) dX8_says_50 rfl (fun _ _ _ => rfl) rfl rfl rfl ?_
            refine zf_bi (v := (-3)) (pc' := 53) dX8_says_51 rfl rfl ?_
            refine zf_iv (k := 125) (pc' := 56) (r := []) dX8_says_53 rfl rfl rfl rfl (by decide) rfl rfl rfl (zr_125 (by omega) h) (zf_kI (fun x17 m18 h => ?_))
            exact zf_ri dX8_says_56 rfl h
        · replace h := h.2 g
          refine zf_ld (pc' := 35) (v := .inr (.inr (1, 63))) dX8_says_34 rfl (fun _ _ _ => rfl) rfl rfl rfl ?_
          refine zf_bi (v := (-2)) (pc' := 37) dX8_says_35 rfl rfl ?_
          refine zf_iv (k := 125) (pc' := 40) (r := []) dX8_says_37 rfl rfl rfl rfl (by decide) rfl rfl rfl (zr_125 (by omega) h) (zf_kI (fun x19 m20 h => ?_))
          exact zf_ri dX8_says_40 rfl h
      · replace h := h.2 g
        refine zf_ld (pc' := 19) (v := .inr (.inr (1, 63))) dX8_says_18 rfl (fun _ _ _ => rfl) rfl rfl rfl ?_
        refine zf_ic (v := (-1)) (pc' := 20) dX8_says_19 rfl rfl ?_
        refine zf_iv (k := 125) (pc' := 23) (r := []) dX8_says_20 rfl rfl rfl rfl (by decide) rfl rfl rfl (zr_125 (by omega) h) (zf_kI (fun x21 m22 h => ?_))
        exact zf_ri dX8_says_23 rfl h
def zt_137 : zx_MT := (8, yX8_wanted, cX8_wanted, 2, (some FieldType.int), 1, 0)
theorem zm_137 : zx_m 137 = zt_137 := rfl
theorem dX8_wanted_r0 : zdcP cX8_wanted 0 [(.aload_n 0, 1), (.iload_n 1, 1), (.invokevirtual 111, 3), (.ifCond .ne 7, 3), (.iconst (-1), 1), (.goto 33, 3), (.aload_n 0, 1), (.getfield 56, 3), (.iload_n 1, 1), (.iaload, 1), (.iconst 2, 1), (.if_icmp .ne 8, 3), (.bipush (-2), 2), (.goto 18, 3), (.aload_n 0, 1), (.getfield 56, 3)] := zdcA_ok (by decide +kernel)
theorem dX8_wanted_0 : decode cX8_wanted 0 = .ok (.aload_n 0, 1) := dX8_wanted_r0.1
theorem dX8_wanted_1 : decode cX8_wanted 1 = .ok (.iload_n 1, 1) := dX8_wanted_r0.2.1
theorem dX8_wanted_2 : decode cX8_wanted 2 = .ok (.invokevirtual 111, 3) := dX8_wanted_r0.2.2.1
theorem dX8_wanted_5 : decode cX8_wanted 5 = .ok (.ifCond .ne 7, 3) := dX8_wanted_r0.2.2.2.1
theorem dX8_wanted_8 : decode cX8_wanted 8 = .ok (.iconst (-1), 1) := dX8_wanted_r0.2.2.2.2.1
theorem dX8_wanted_9 : decode cX8_wanted 9 = .ok (.goto 33, 3) := dX8_wanted_r0.2.2.2.2.2.1
theorem dX8_wanted_12 : decode cX8_wanted 12 = .ok (.aload_n 0, 1) := dX8_wanted_r0.2.2.2.2.2.2.1
theorem dX8_wanted_13 : decode cX8_wanted 13 = .ok (.getfield 56, 3) := dX8_wanted_r0.2.2.2.2.2.2.2.1
theorem dX8_wanted_16 : decode cX8_wanted 16 = .ok (.iload_n 1, 1) := dX8_wanted_r0.2.2.2.2.2.2.2.2.1
theorem dX8_wanted_17 : decode cX8_wanted 17 = .ok (.iaload, 1) := dX8_wanted_r0.2.2.2.2.2.2.2.2.2.1
theorem dX8_wanted_18 : decode cX8_wanted 18 = .ok (.iconst 2, 1) := dX8_wanted_r0.2.2.2.2.2.2.2.2.2.2.1
theorem dX8_wanted_19 : decode cX8_wanted 19 = .ok (.if_icmp .ne 8, 3) := dX8_wanted_r0.2.2.2.2.2.2.2.2.2.2.2.1
theorem dX8_wanted_22 : decode cX8_wanted 22 = .ok (.bipush (-2), 2) := dX8_wanted_r0.2.2.2.2.2.2.2.2.2.2.2.2.1
theorem dX8_wanted_24 : decode cX8_wanted 24 = .ok (.goto 18, 3) := dX8_wanted_r0.2.2.2.2.2.2.2.2.2.2.2.2.2.1
theorem dX8_wanted_27 : decode cX8_wanted 27 = .ok (.aload_n 0, 1) := dX8_wanted_r0.2.2.2.2.2.2.2.2.2.2.2.2.2.2.1
theorem dX8_wanted_28 : decode cX8_wanted 28 = .ok (.getfield 56, 3) := dX8_wanted_r0.2.2.2.2.2.2.2.2.2.2.2.2.2.2.2.1
theorem dX8_wanted_r31 : zdcP cX8_wanted 31 [(.iload_n 1, 1), (.iaload, 1), (.ifCond .ne 8, 3), (.bipush (-3), 2), (.goto 4, 3), (.iconst 0, 1), (.ireturn, 1)] := zdcA_ok (by decide +kernel)
theorem dX8_wanted_31 : decode cX8_wanted 31 = .ok (.iload_n 1, 1) := dX8_wanted_r31.1
theorem dX8_wanted_32 : decode cX8_wanted 32 = .ok (.iaload, 1) := dX8_wanted_r31.2.1
theorem dX8_wanted_33 : decode cX8_wanted 33 = .ok (.ifCond .ne 8, 3) := dX8_wanted_r31.2.2.1
theorem dX8_wanted_36 : decode cX8_wanted 36 = .ok (.bipush (-3), 2) := dX8_wanted_r31.2.2.2.1
theorem dX8_wanted_38 : decode cX8_wanted 38 = .ok (.goto 4, 3) := dX8_wanted_r31.2.2.2.2.1
theorem dX8_wanted_41 : decode cX8_wanted 41 = .ok (.iconst 0, 1) := dX8_wanted_r31.2.2.2.2.2.1
theorem dX8_wanted_42 : decode cX8_wanted 42 = .ok (.ireturn, 1) := dX8_wanted_r31.2.2.2.2.2.2.1
def wp_137 (v1 : Int32) (m : zf_Me) (Q : Int32 → zf_Me → Prop) : Prop := wp_127 v1 m (fun b1 m2 => ((b1 = true → ((0 ≤ (Int32.toInt v1) ∧ (Int32.toInt v1) < (8 : Int)) ∧ ((¬ ((m2.1 70 (Int32.toInt v1).toNat)).toInt = 2 → ((0 ≤ (Int32.toInt v1) ∧ (Int32.toInt v1) < (8 : Int)) ∧ ((¬ ((m2.1 70 (Int32.toInt v1).toNat)).toInt = 0 → Q 0 m2) ∧ (((m2.1 70 (Int32.toInt v1).toNat)).toInt = 0 → Q (-3) m2)))) ∧ (((m2.1 70 (Int32.toInt v1).toNat)).toInt = 2 → Q (-2) m2)))) ∧ (b1 = false → Q (-1) m2)))
theorem zr_137 {d : Nat} (hd : 1 ≤ d) {v1 : Int32} {Q : Int32 → zf_Me → Prop} {m : zf_Me} (h : wp_137 v1 m Q) : zf_M d 137 [.inr (.inr (1, 63)), .inl v1] m (zf_I Q) := by
  obtain ⟨e, rfl⟩ : ∃ z, d = z + 1 := ⟨d - 1, by omega⟩
  unfold wp_137 at h
  refine zf_M_of (Nat.le_of_ble_eq_true rfl) zm_137 (L := [some (.inr (.inr (1, 63))), some (.inl v1)]) rfl ?_
  refine zf_ld (pc' := 1) (v := .inr (.inr (1, 63))) dX8_wanted_0 rfl (fun _ _ _ => rfl) rfl rfl rfl ?_
  refine zf_ld (pc' := 2) (v := .inl v1) dX8_wanted_1 rfl (fun _ _ _ => rfl) rfl rfl rfl ?_
  refine zf_iv (k := 127) (pc' := 5) (r := []) dX8_wanted_2 rfl rfl rfl rfl (by decide) rfl rfl rfl (zr_127 (by omega) h) (zf_kB (fun b1 m2 h => ?_))
  refine zf_ib_ne (tgt := 12) (pc' := 8) dX8_wanted_5 rfl rfl (fun g => ?_) (fun g => ?_)
  · replace h := h.1 g
    refine zf_ld (pc' := 13) (v := .inr (.inr (1, 63))) dX8_wanted_12 rfl (fun _ _ _ => rfl) rfl rfl rfl ?_
    refine zf_gfr (pc' := 16) (b := 70) dX8_wanted_13 rfl rfl (by decide) rfl rfl ?_
    refine zf_ld (pc' := 17) (v := .inl v1) dX8_wanted_16 rfl (fun _ _ _ => rfl) rfl rfl rfl ?_
    refine zf_ial (pc' := 18) dX8_wanted_17 rfl (⟨by decide, rfl⟩ : zf_arr 70 8).1 (⟨by decide, rfl⟩ : zf_arr 70 8).2 h.1 rfl ?_
    replace h := h.2
    refine zf_ic (v := 2) (pc' := 19) dX8_wanted_18 rfl rfl ?_
    refine zf_icmp_ne (tgt := 27) (pc' := 22) dX8_wanted_19 rfl rfl (fun g => ?_) (fun g => ?_)
    · replace h := h.1 g
      refine zf_ld (pc' := 28) (v := .inr (.inr (1, 63))) dX8_wanted_27 rfl (fun _ _ _ => rfl) rfl rfl rfl ?_
      refine zf_gfr (pc' := 31) (b := 70) dX8_wanted_28 rfl rfl (by decide) rfl rfl ?_
      refine zf_ld (pc' := 32) (v := .inl v1) dX8_wanted_31 rfl (fun _ _ _ => rfl) rfl rfl rfl ?_
      refine zf_ial (pc' := 33) dX8_wanted_32 rfl (⟨by decide, rfl⟩ : zf_arr 70 8).1 (⟨by decide, rfl⟩ : zf_arr 70 8).2 h.1 rfl ?_
      replace h := h.2
      refine zf_if_ne (tgt := 41) (pc' := 36) dX8_wanted_33 rfl rfl (fun g => ?_) (fun g => ?_)
      · replace h := h.1 g
        refine zf_ic (v := 0) (pc' := 42) dX8_wanted_41 rfl rfl ?_
        exact zf_ri dX8_wanted_42 rfl h
      · replace h := h.2 g
        refine zf_bi (v := (-3)) (pc' := 38) dX8_wanted_36 rfl rfl ?_
        refine zf_goto (tgt := 42) dX8_wanted_38 rfl ?_
        exact zf_ri dX8_wanted_42 rfl h
    · replace h := h.2 g
      refine zf_bi (v := (-2)) (pc' := 24) dX8_wanted_22 rfl rfl ?_
      refine zf_goto (tgt := 42) dX8_wanted_24 rfl ?_
      exact zf_ri dX8_wanted_42 rfl h
  · replace h := h.2 g
    refine zf_ic (v := (-1)) (pc' := 9) dX8_wanted_8 rfl rfl ?_
    refine zf_goto (tgt := 42) dX8_wanted_9 rfl ?_
    exact zf_ri dX8_wanted_42 rfl h
def zt_138 : zx_MT := (8, yX8_intAt, cX8_intAt, 3, (some FieldType.int), 2, 0)
theorem zm_138 : zx_m 138 = zt_138 := rfl
theorem dX8_intAt_r0 : zdcP cX8_intAt 0 [(.aload_n 0, 1), (.getfield 68, 3), (.sipush 160, 3), (.iload_n 1, 1), (.imul, 1), (.iload_n 2, 1), (.iadd, 1), (.laload, 1), (.l2i, 1), (.ireturn, 1)] := zdcA_ok (by decide +kernel)
theorem dX8_intAt_0 : decode cX8_intAt 0 = .ok (.aload_n 0, 1) := dX8_intAt_r0.1
theorem dX8_intAt_1 : decode cX8_intAt 1 = .ok (.getfield 68, 3) := dX8_intAt_r0.2.1
theorem dX8_intAt_4 : decode cX8_intAt 4 = .ok (.sipush 160, 3) := dX8_intAt_r0.2.2.1
theorem dX8_intAt_7 : decode cX8_intAt 7 = .ok (.iload_n 1, 1) := dX8_intAt_r0.2.2.2.1
theorem dX8_intAt_8 : decode cX8_intAt 8 = .ok (.imul, 1) := dX8_intAt_r0.2.2.2.2.1
theorem dX8_intAt_9 : decode cX8_intAt 9 = .ok (.iload_n 2, 1) := dX8_intAt_r0.2.2.2.2.2.1
theorem dX8_intAt_10 : decode cX8_intAt 10 = .ok (.iadd, 1) := dX8_intAt_r0.2.2.2.2.2.2.1
theorem dX8_intAt_11 : decode cX8_intAt 11 = .ok (.laload, 1) := dX8_intAt_r0.2.2.2.2.2.2.2.1
theorem dX8_intAt_12 : decode cX8_intAt 12 = .ok (.l2i, 1) := dX8_intAt_r0.2.2.2.2.2.2.2.2.1
theorem dX8_intAt_13 : decode cX8_intAt 13 = .ok (.ireturn, 1) := dX8_intAt_r0.2.2.2.2.2.2.2.2.2.1
def wp_138 (v1 : Int32) (v2 : Int32) (m : zf_Me) (Q : Int32 → zf_Me → Prop) : Prop := ((0 ≤ (Int32.toInt ((160 * v1) + v2)) ∧ (Int32.toInt ((160 * v1) + v2)) < (1280 : Int)) ∧ Q (Int64.toInt32 (m.2 74 (Int32.toInt ((160 * v1) + v2)).toNat)) m)
theorem zr_138 {d : Nat} (hd : 0 ≤ d) {v1 : Int32} {v2 : Int32} {Q : Int32 → zf_Me → Prop} {m : zf_Me} (h : wp_138 v1 v2 m Q) : zf_M d 138 [.inr (.inr (1, 63)), .inl v1, .inl v2] m (zf_I Q) := by
  unfold wp_138 at h
  refine zf_M_of (Nat.le_of_ble_eq_true rfl) zm_138 (L := [some (.inr (.inr (1, 63))), some (.inl v1), some (.inl v2)]) rfl ?_
  refine zf_ld (pc' := 1) (v := .inr (.inr (1, 63))) dX8_intAt_0 rfl (fun _ _ _ => rfl) rfl rfl rfl ?_
  refine zf_gfr (pc' := 4) (b := 74) dX8_intAt_1 rfl rfl (by decide) rfl rfl ?_
  refine zf_si (v := 160) (pc' := 7) dX8_intAt_4 rfl rfl ?_
  refine zf_ld (pc' := 8) (v := .inl v1) dX8_intAt_7 rfl (fun _ _ _ => rfl) rfl rfl rfl ?_
  refine zf_in (pc' := 9) (S' := [.inl (160 * v1), .inr (.inr (1, 74))]) dX8_intAt_8 rfl (fun _ _ _ => rfl) ?_
  refine zf_ld (pc' := 10) (v := .inl v2) dX8_intAt_9 rfl (fun _ _ _ => rfl) rfl rfl rfl ?_
  refine zf_in (pc' := 11) (S' := [.inl ((160 * v1) + v2), .inr (.inr (1, 74))]) dX8_intAt_10 rfl (fun _ _ _ => rfl) ?_
  refine zf_lal (pc' := 12) dX8_intAt_11 rfl (⟨by decide, rfl⟩ : zf_larr 74 1280).1 (⟨by decide, rfl⟩ : zf_larr 74 1280).2 h.1 rfl ?_
  replace h := h.2
  refine zf_in (pc' := 13) (S' := [.inl (Int64.toInt32 (m.2 74 (Int32.toInt ((160 * v1) + v2)).toNat))]) dX8_intAt_12 rfl (fun _ _ _ => rfl) ?_
  exact zf_ri dX8_intAt_13 rfl h
def zt_139 : zx_MT := (8, yX8_bars, cX8_bars, 4, (some FieldType.int), 2, 0)
theorem zm_139 : zx_m 139 = zt_139 := rfl
theorem dX8_bars_r0 : zdcP cX8_bars 0 [(.aload_n 0, 1), (.iload_n 1, 1), (.invokevirtual 130, 3), (.istore_n 3, 1), (.iload_n 3, 1), (.ifCond .eq 5, 3), (.iload_n 3, 1), (.ireturn, 1), (.iload_n 2, 1), (.ifCond .ge 8, 3), (.bipush (-4), 2), (.goto 19, 3), (.iload_n 2, 1), (.aload_n 0, 1), (.getfield 62, 3), (.iload_n 1, 1)] := zdcA_ok (by decide +kernel)
theorem dX8_bars_0 : decode cX8_bars 0 = .ok (.aload_n 0, 1) := dX8_bars_r0.1
theorem dX8_bars_1 : decode cX8_bars 1 = .ok (.iload_n 1, 1) := dX8_bars_r0.2.1
theorem dX8_bars_2 : decode cX8_bars 2 = .ok (.invokevirtual 130, 3) := dX8_bars_r0.2.2.1
theorem dX8_bars_5 : decode cX8_bars 5 = .ok (.istore_n 3, 1) := dX8_bars_r0.2.2.2.1
theorem dX8_bars_6 : decode cX8_bars 6 = .ok (.iload_n 3, 1) := dX8_bars_r0.2.2.2.2.1
theorem dX8_bars_7 : decode cX8_bars 7 = .ok (.ifCond .eq 5, 3) := dX8_bars_r0.2.2.2.2.2.1
theorem dX8_bars_10 : decode cX8_bars 10 = .ok (.iload_n 3, 1) := dX8_bars_r0.2.2.2.2.2.2.1
theorem dX8_bars_11 : decode cX8_bars 11 = .ok (.ireturn, 1) := dX8_bars_r0.2.2.2.2.2.2.2.1
theorem dX8_bars_12 : decode cX8_bars 12 = .ok (.iload_n 2, 1) := dX8_bars_r0.2.2.2.2.2.2.2.2.1
theorem dX8_bars_13 : decode cX8_bars 13 = .ok (.ifCond .ge 8, 3) := dX8_bars_r0.2.2.2.2.2.2.2.2.2.1
theorem dX8_bars_16 : decode cX8_bars 16 = .ok (.bipush (-4), 2) := dX8_bars_r0.2.2.2.2.2.2.2.2.2.2.1
theorem dX8_bars_18 : decode cX8_bars 18 = .ok (.goto 19, 3) := dX8_bars_r0.2.2.2.2.2.2.2.2.2.2.2.1
theorem dX8_bars_21 : decode cX8_bars 21 = .ok (.iload_n 2, 1) := dX8_bars_r0.2.2.2.2.2.2.2.2.2.2.2.2.1
theorem dX8_bars_22 : decode cX8_bars 22 = .ok (.aload_n 0, 1) := dX8_bars_r0.2.2.2.2.2.2.2.2.2.2.2.2.2.1
theorem dX8_bars_23 : decode cX8_bars 23 = .ok (.getfield 62, 3) := dX8_bars_r0.2.2.2.2.2.2.2.2.2.2.2.2.2.2.1
theorem dX8_bars_26 : decode cX8_bars 26 = .ok (.iload_n 1, 1) := dX8_bars_r0.2.2.2.2.2.2.2.2.2.2.2.2.2.2.2.1
theorem dX8_bars_r27 : zdcP cX8_bars 27 [(.iaload, 1), (.if_icmp .le 8, 3), (.bipush (-5), 2), (.goto 4, 3), (.iconst 0, 1), (.ireturn, 1)] := zdcA_ok (by decide +kernel)
theorem dX8_bars_27 : decode cX8_bars 27 = .ok (.iaload, 1) := dX8_bars_r27.1
theorem dX8_bars_28 : decode cX8_bars 28 = .ok (.if_icmp .le 8, 3) := dX8_bars_r27.2.1
theorem dX8_bars_31 : decode cX8_bars 31 = .ok (.bipush (-5), 2) := dX8_bars_r27.2.2.1
theorem dX8_bars_33 : decode cX8_bars 33 = .ok (.goto 4, 3) := dX8_bars_r27.2.2.2.1
theorem dX8_bars_36 : decode cX8_bars 36 = .ok (.iconst 0, 1) := dX8_bars_r27.2.2.2.2.1
theorem dX8_bars_37 : decode cX8_bars 37 = .ok (.ireturn, 1) := dX8_bars_r27.2.2.2.2.2.1
def wp_139 (v1 : Int32) (v2 : Int32) (m : zf_Me) (Q : Int32 → zf_Me → Prop) : Prop := wp_137 v1 m (fun x1 m2 => ((x1.toInt = 0 → ((v2.toInt ≥ 0 → ((0 ≤ (Int32.toInt v1) ∧ (Int32.toInt v1) < (8 : Int)) ∧ ((v2.toInt ≤ ((m2.1 72 (Int32.toInt v1).toNat)).toInt → Q 0 m2) ∧ (v2.toInt > ((m2.1 72 (Int32.toInt v1).toNat)).toInt → Q (-5) m2)))) ∧ (v2.toInt < 0 → Q (-4) m2))) ∧ (¬ x1.toInt = 0 → Q x1 m2)))
theorem zr_139 {d : Nat} (hd : 2 ≤ d) {v1 : Int32} {v2 : Int32} {Q : Int32 → zf_Me → Prop} {m : zf_Me} (h : wp_139 v1 v2 m Q) : zf_M d 139 [.inr (.inr (1, 63)), .inl v1, .inl v2] m (zf_I Q) := by
  obtain ⟨e, rfl⟩ : ∃ z, d = z + 1 := ⟨d - 1, by omega⟩
  unfold wp_139 at h
  refine zf_M_of (Nat.le_of_ble_eq_true rfl) zm_139 (L := [some (.inr (.inr (1, 63))), some (.inl v1), some (.inl v2), none]) rfl ?_
  refine zf_ld (pc' := 1) (v := .inr (.inr (1, 63))) dX8_bars_0 rfl (fun _ _ _ => rfl) rfl rfl rfl ?_
  refine zf_ld (pc' := 2) (v := .inl v1) dX8_bars_1 rfl (fun _ _ _ => rfl) rfl rfl rfl ?_
  refine zf_iv (k := 137) (pc' := 5) (r := []) dX8_bars_2 rfl rfl rfl rfl (by decide) rfl rfl rfl (zr_137 (by omega) h) (zf_kI (fun x1 m2 h => ?_))
  refine zf_st (pc' := 6) (L2 := [some (.inr (.inr (1, 63))), some (.inl v1), some (.inl v2), some (.inl x1)]) dX8_bars_5 rfl (fun _ _ _ => rfl) rfl rfl rfl rfl rfl rfl ?_
  refine zf_ld (pc' := 7) (v := .inl x1) dX8_bars_6 rfl (fun _ _ _ => rfl) rfl rfl rfl ?_
  refine zf_if_eq (tgt := 12) (pc' := 10) dX8_bars_7 rfl rfl (fun g => ?_) (fun g => ?_)
  · replace h := h.1 g
    refine zf_ld (pc' := 13) (v := .inl v2) dX8_bars_12 rfl (fun _ _ _ => rfl) rfl rfl rfl ?_
    refine zf_if_ge (tgt := 21) (pc' := 16) dX8_bars_13 rfl rfl (fun g => ?_) (fun g => ?_)
    · replace h := h.1 g
      refine zf_ld (pc' := 22) (v := .inl v2) dX8_bars_21 rfl (fun _ _ _ => rfl) rfl rfl rfl ?_
      refine zf_ld (pc' := 23) (v := .inr (.inr (1, 63))) dX8_bars_22 rfl (fun _ _ _ => rfl) rfl rfl rfl ?_
      refine zf_gfr (pc' := 26) (b := 72) dX8_bars_23 rfl rfl (by decide) rfl rfl ?_
      refine zf_ld (pc' := 27) (v := .inl v1) dX8_bars_26 rfl (fun _ _ _ => rfl) rfl rfl rfl ?_
      refine zf_ial (pc' := 28) dX8_bars_27 rfl (⟨by decide, rfl⟩ : zf_arr 72 8).1 (⟨by decide, rfl⟩ : zf_arr 72 8).2 h.1 rfl ?_
      replace h := h.2
      refine zf_icmp_le (tgt := 36) (pc' := 31) dX8_bars_28 rfl rfl (fun g => ?_) (fun g => ?_)
      · replace h := h.1 g
        refine zf_ic (v := 0) (pc' := 37) dX8_bars_36 rfl rfl ?_
        exact zf_ri dX8_bars_37 rfl h
      · replace h := h.2 g
        refine zf_bi (v := (-5)) (pc' := 33) dX8_bars_31 rfl rfl ?_
        refine zf_goto (tgt := 37) dX8_bars_33 rfl ?_
        exact zf_ri dX8_bars_37 rfl h
    · replace h := h.2 g
      refine zf_bi (v := (-4)) (pc' := 18) dX8_bars_16 rfl rfl ?_
      refine zf_goto (tgt := 37) dX8_bars_18 rfl ?_
      exact zf_ri dX8_bars_37 rfl h
  · replace h := h.2 g
    refine zf_ld (pc' := 11) (v := .inl x1) dX8_bars_10 rfl (fun _ _ _ => rfl) rfl rfl rfl ?_
    exact zf_ri dX8_bars_11 rfl h
def zt_140 : zx_MT := (8, yX8_addsFurlong, cX8_addsFurlong, 3, (some FieldType.int), 2, 0)
theorem zm_140 : zx_m 140 = zt_140 := rfl
theorem dX8_addsFurlong_r0 : zdcP cX8_addsFurlong 0 [(.aload_n 0, 1), (.getfield 41, 3), (.aload_n 0, 1), (.getfield 108, 3), (.iload_n 1, 1), (.iastore, 1), (.aload_n 0, 1), (.getfield 44, 3), (.aload_n 0, 1), (.getfield 108, 3), (.iload_n 2, 1), (.iastore, 1), (.aload_n 0, 1), (.dup, 1), (.getfield 108, 3), (.dup_x1, 1)] := zdcA_ok (by decide +kernel)
theorem dX8_addsFurlong_0 : decode cX8_addsFurlong 0 = .ok (.aload_n 0, 1) := dX8_addsFurlong_r0.1
theorem dX8_addsFurlong_1 : decode cX8_addsFurlong 1 = .ok (.getfield 41, 3) := dX8_addsFurlong_r0.2.1
theorem dX8_addsFurlong_4 : decode cX8_addsFurlong 4 = .ok (.aload_n 0, 1) := dX8_addsFurlong_r0.2.2.1
theorem dX8_addsFurlong_5 : decode cX8_addsFurlong 5 = .ok (.getfield 108, 3) := dX8_addsFurlong_r0.2.2.2.1
theorem dX8_addsFurlong_8 : decode cX8_addsFurlong 8 = .ok (.iload_n 1, 1) := dX8_addsFurlong_r0.2.2.2.2.1
theorem dX8_addsFurlong_9 : decode cX8_addsFurlong 9 = .ok (.iastore, 1) := dX8_addsFurlong_r0.2.2.2.2.2.1
theorem dX8_addsFurlong_10 : decode cX8_addsFurlong 10 = .ok (.aload_n 0, 1) := dX8_addsFurlong_r0.2.2.2.2.2.2.1
theorem dX8_addsFurlong_11 : decode cX8_addsFurlong 11 = .ok (.getfield 44, 3) := dX8_addsFurlong_r0.2.2.2.2.2.2.2.1
theorem dX8_addsFurlong_14 : decode cX8_addsFurlong 14 = .ok (.aload_n 0, 1) := dX8_addsFurlong_r0.2.2.2.2.2.2.2.2.1
theorem dX8_addsFurlong_15 : decode cX8_addsFurlong 15 = .ok (.getfield 108, 3) := dX8_addsFurlong_r0.2.2.2.2.2.2.2.2.2.1
theorem dX8_addsFurlong_18 : decode cX8_addsFurlong 18 = .ok (.iload_n 2, 1) := dX8_addsFurlong_r0.2.2.2.2.2.2.2.2.2.2.1
theorem dX8_addsFurlong_19 : decode cX8_addsFurlong 19 = .ok (.iastore, 1) := dX8_addsFurlong_r0.2.2.2.2.2.2.2.2.2.2.2.1
theorem dX8_addsFurlong_20 : decode cX8_addsFurlong 20 = .ok (.aload_n 0, 1) := dX8_addsFurlong_r0.2.2.2.2.2.2.2.2.2.2.2.2.1
theorem dX8_addsFurlong_21 : decode cX8_addsFurlong 21 = .ok (.dup, 1) := dX8_addsFurlong_r0.2.2.2.2.2.2.2.2.2.2.2.2.2.1
theorem dX8_addsFurlong_22 : decode cX8_addsFurlong 22 = .ok (.getfield 108, 3) := dX8_addsFurlong_r0.2.2.2.2.2.2.2.2.2.2.2.2.2.2.1
theorem dX8_addsFurlong_25 : decode cX8_addsFurlong 25 = .ok (.dup_x1, 1) := dX8_addsFurlong_r0.2.2.2.2.2.2.2.2.2.2.2.2.2.2.2.1
theorem dX8_addsFurlong_r26 : zdcP cX8_addsFurlong 26 [(.iconst 1, 1), (.iadd, 1), (.putfield 108, 3), (.ireturn, 1)] := zdcA_ok (by decide +kernel)
theorem dX8_addsFurlong_26 : decode cX8_addsFurlong 26 = .ok (.iconst 1, 1) := dX8_addsFurlong_r26.1
theorem dX8_addsFurlong_27 : decode cX8_addsFurlong 27 = .ok (.iadd, 1) := dX8_addsFurlong_r26.2.1
theorem dX8_addsFurlong_28 : decode cX8_addsFurlong 28 = .ok (.putfield 108, 3) := dX8_addsFurlong_r26.2.2.1
theorem dX8_addsFurlong_31 : decode cX8_addsFurlong 31 = .ok (.ireturn, 1) := dX8_addsFurlong_r26.2.2.2.1
def wp_140 (v1 : Int32) (v2 : Int32) (m : zf_Me) (Q : Int32 → zf_Me → Prop) : Prop := ((0 ≤ (Int32.toInt (m.1 63 0)) ∧ (Int32.toInt (m.1 63 0)) < (24 : Int)) ∧ ∀ m1, m1 = zf_u m 65 (Int32.toInt (m.1 63 0)).toNat v1 → ((0 ≤ (Int32.toInt (m1.1 63 0)) ∧ (Int32.toInt (m1.1 63 0)) < (24 : Int)) ∧ ∀ m3, m3 = zf_u m1 66 (Int32.toInt (m1.1 63 0)).toNat v2 → (∀ m5, m5 = zf_u m3 63 0 ((m3.1 63 0) + 1) → Q (m3.1 63 0) m5)))
theorem zr_140 {d : Nat} (hd : 0 ≤ d) {v1 : Int32} {v2 : Int32} {Q : Int32 → zf_Me → Prop} {m : zf_Me} (h : wp_140 v1 v2 m Q) : zf_M d 140 [.inr (.inr (1, 63)), .inl v1, .inl v2] m (zf_I Q) := by
  unfold wp_140 at h
  refine zf_M_of (Nat.le_of_ble_eq_true rfl) zm_140 (L := [some (.inr (.inr (1, 63))), some (.inl v1), some (.inl v2)]) rfl ?_
  refine zf_ld (pc' := 1) (v := .inr (.inr (1, 63))) dX8_addsFurlong_0 rfl (fun _ _ _ => rfl) rfl rfl rfl ?_
  refine zf_gfr (pc' := 4) (b := 65) dX8_addsFurlong_1 rfl rfl (by decide) rfl rfl ?_
  refine zf_ld (pc' := 5) (v := .inr (.inr (1, 63))) dX8_addsFurlong_4 rfl (fun _ _ _ => rfl) rfl rfl rfl ?_
  refine zf_gfi (pc' := 8) dX8_addsFurlong_5 rfl rfl (by decide) rfl rfl ?_
  refine zf_ld (pc' := 9) (v := .inl v1) dX8_addsFurlong_8 rfl (fun _ _ _ => rfl) rfl rfl rfl ?_
  refine zf_ias (pc' := 10) dX8_addsFurlong_9 rfl (⟨by decide, rfl⟩ : zf_arr 65 24).1 (⟨by decide, rfl⟩ : zf_arr 65 24).2 h.1 rfl (fun m1 e2 => ?_)
  replace h := h.2 m1 e2
  refine zf_ld (pc' := 11) (v := .inr (.inr (1, 63))) dX8_addsFurlong_10 rfl (fun _ _ _ => rfl) rfl rfl rfl ?_
  refine zf_gfr (pc' := 14) (b := 66) dX8_addsFurlong_11 rfl rfl (by decide) rfl rfl ?_
  refine zf_ld (pc' := 15) (v := .inr (.inr (1, 63))) dX8_addsFurlong_14 rfl (fun _ _ _ => rfl) rfl rfl rfl ?_
  refine zf_gfi (pc' := 18) dX8_addsFurlong_15 rfl rfl (by decide) rfl rfl ?_
  refine zf_ld (pc' := 19) (v := .inl v2) dX8_addsFurlong_18 rfl (fun _ _ _ => rfl) rfl rfl rfl ?_
  refine zf_ias (pc' := 20) dX8_addsFurlong_19 rfl (⟨by decide, rfl⟩ : zf_arr 66 24).1 (⟨by decide, rfl⟩ : zf_arr 66 24).2 h.1 rfl (fun m3 e4 => ?_)
  replace h := h.2 m3 e4
  refine zf_ld (pc' := 21) (v := .inr (.inr (1, 63))) dX8_addsFurlong_20 rfl (fun _ _ _ => rfl) rfl rfl rfl ?_
  refine zf_in (pc' := 22) (S' := [.inr (.inr (1, 63)), .inr (.inr (1, 63))]) dX8_addsFurlong_21 rfl (fun _ _ _ => rfl) ?_
  refine zf_gfi (pc' := 25) dX8_addsFurlong_22 rfl rfl (by decide) rfl rfl ?_
  refine zf_in (pc' := 26) (S' := [.inl (m3.1 63 0), .inr (.inr (1, 63)), .inl (m3.1 63 0)]) dX8_addsFurlong_25 rfl (fun _ _ _ => rfl) ?_
  refine zf_ic (v := 1) (pc' := 27) dX8_addsFurlong_26 rfl rfl ?_
  refine zf_in (pc' := 28) (S' := [.inl ((m3.1 63 0) + 1), .inr (.inr (1, 63)), .inl (m3.1 63 0)]) dX8_addsFurlong_27 rfl (fun _ _ _ => rfl) ?_
  refine zf_pf (pc' := 31) dX8_addsFurlong_28 rfl rfl (by decide) rfl rfl rfl (fun m5 e6 => ?_)
  replace h := h m5 e6
  exact zf_ri dX8_addsFurlong_31 rfl h
def zt_141 : zx_MT := (8, yX8_addsPerson, cX8_addsPerson, 3, (some FieldType.int), 2, 0)
theorem zm_141 : zx_m 141 = zt_141 := rfl
theorem dX8_addsPerson_r0 : zdcP cX8_addsPerson 0 [(.aload_n 0, 1), (.getfield 47, 3), (.aload_n 0, 1), (.getfield 105, 3), (.iload_n 1, 1), (.iastore, 1), (.aload_n 0, 1), (.getfield 50, 3), (.aload_n 0, 1), (.getfield 105, 3), (.iload_n 2, 1), (.iastore, 1), (.aload_n 0, 1), (.getfield 53, 3), (.aload_n 0, 1), (.getfield 105, 3)] := zdcA_ok (by decide +kernel)
theorem dX8_addsPerson_0 : decode cX8_addsPerson 0 = .ok (.aload_n 0, 1) := dX8_addsPerson_r0.1
theorem dX8_addsPerson_1 : decode cX8_addsPerson 1 = .ok (.getfield 47, 3) := dX8_addsPerson_r0.2.1
theorem dX8_addsPerson_4 : decode cX8_addsPerson 4 = .ok (.aload_n 0, 1) := dX8_addsPerson_r0.2.2.1
theorem dX8_addsPerson_5 : decode cX8_addsPerson 5 = .ok (.getfield 105, 3) := dX8_addsPerson_r0.2.2.2.1
theorem dX8_addsPerson_8 : decode cX8_addsPerson 8 = .ok (.iload_n 1, 1) := dX8_addsPerson_r0.2.2.2.2.1
theorem dX8_addsPerson_9 : decode cX8_addsPerson 9 = .ok (.iastore, 1) := dX8_addsPerson_r0.2.2.2.2.2.1
theorem dX8_addsPerson_10 : decode cX8_addsPerson 10 = .ok (.aload_n 0, 1) := dX8_addsPerson_r0.2.2.2.2.2.2.1
theorem dX8_addsPerson_11 : decode cX8_addsPerson 11 = .ok (.getfield 50, 3) := dX8_addsPerson_r0.2.2.2.2.2.2.2.1
theorem dX8_addsPerson_14 : decode cX8_addsPerson 14 = .ok (.aload_n 0, 1) := dX8_addsPerson_r0.2.2.2.2.2.2.2.2.1
theorem dX8_addsPerson_15 : decode cX8_addsPerson 15 = .ok (.getfield 105, 3) := dX8_addsPerson_r0.2.2.2.2.2.2.2.2.2.1
theorem dX8_addsPerson_18 : decode cX8_addsPerson 18 = .ok (.iload_n 2, 1) := dX8_addsPerson_r0.2.2.2.2.2.2.2.2.2.2.1
theorem dX8_addsPerson_19 : decode cX8_addsPerson 19 = .ok (.iastore, 1) := dX8_addsPerson_r0.2.2.2.2.2.2.2.2.2.2.2.1
theorem dX8_addsPerson_20 : decode cX8_addsPerson 20 = .ok (.aload_n 0, 1) := dX8_addsPerson_r0.2.2.2.2.2.2.2.2.2.2.2.2.1
theorem dX8_addsPerson_21 : decode cX8_addsPerson 21 = .ok (.getfield 53, 3) := dX8_addsPerson_r0.2.2.2.2.2.2.2.2.2.2.2.2.2.1
theorem dX8_addsPerson_24 : decode cX8_addsPerson 24 = .ok (.aload_n 0, 1) := dX8_addsPerson_r0.2.2.2.2.2.2.2.2.2.2.2.2.2.2.1
theorem dX8_addsPerson_25 : decode cX8_addsPerson 25 = .ok (.getfield 105, 3) := dX8_addsPerson_r0.2.2.2.2.2.2.2.2.2.2.2.2.2.2.2.1
theorem dX8_addsPerson_r28 : zdcP cX8_addsPerson 28 [(.iconst 0, 1), (.iastore, 1), (.aload_n 0, 1), (.dup, 1), (.getfield 105, 3), (.dup_x1, 1), (.iconst 1, 1), (.iadd, 1), (.putfield 105, 3), (.ireturn, 1)] := zdcA_ok (by decide +kernel)
theorem dX8_addsPerson_28 : decode cX8_addsPerson 28 = .ok (.iconst 0, 1) := dX8_addsPerson_r28.1
theorem dX8_addsPerson_29 : decode cX8_addsPerson 29 = .ok (.iastore, 1) := dX8_addsPerson_r28.2.1
theorem dX8_addsPerson_30 : decode cX8_addsPerson 30 = .ok (.aload_n 0, 1) := dX8_addsPerson_r28.2.2.1
theorem dX8_addsPerson_31 : decode cX8_addsPerson 31 = .ok (.dup, 1) := dX8_addsPerson_r28.2.2.2.1
theorem dX8_addsPerson_32 : decode cX8_addsPerson 32 = .ok (.getfield 105, 3) := dX8_addsPerson_r28.2.2.2.2.1
theorem dX8_addsPerson_35 : decode cX8_addsPerson 35 = .ok (.dup_x1, 1) := dX8_addsPerson_r28.2.2.2.2.2.1
theorem dX8_addsPerson_36 : decode cX8_addsPerson 36 = .ok (.iconst 1, 1) := dX8_addsPerson_r28.2.2.2.2.2.2.1
theorem dX8_addsPerson_37 : decode cX8_addsPerson 37 = .ok (.iadd, 1) := dX8_addsPerson_r28.2.2.2.2.2.2.2.1
theorem dX8_addsPerson_38 : decode cX8_addsPerson 38 = .ok (.putfield 105, 3) := dX8_addsPerson_r28.2.2.2.2.2.2.2.2.1
theorem dX8_addsPerson_41 : decode cX8_addsPerson 41 = .ok (.ireturn, 1) := dX8_addsPerson_r28.2.2.2.2.2.2.2.2.2.1
def wp_141 (v1 : Int32) (v2 : Int32) (m : zf_Me) (Q : Int32 → zf_Me → Prop) : Prop := ((0 ≤ (Int32.toInt (m.1 63 1)) ∧ (Int32.toInt (m.1 63 1)) < (6 : Int)) ∧ ∀ m1, m1 = zf_u m 67 (Int32.toInt (m.1 63 1)).toNat v1 → ((0 ≤ (Int32.toInt (m1.1 63 1)) ∧ (Int32.toInt (m1.1 63 1)) < (6 : Int)) ∧ ∀ m3, m3 = zf_u m1 68 (Int32.toInt (m1.1 63 1)).toNat v2 → ((0 ≤ (Int32.toInt (m3.1 63 1)) ∧ (Int32.toInt (m3.1 63 1)) < (6 : Int)) ∧ ∀ m5, m5 = zf_u m3 69 (Int32.toInt (m3.1 63 1)).toNat 0 → (∀ m7, m7 = zf_u m5 63 1 ((m5.1 63 1) + 1) → Q (m5.1 63 1) m7))))
theorem zr_141 {d : Nat} (hd : 0 ≤ d) {v1 : Int32} {v2 : Int32} {Q : Int32 → zf_Me → Prop} {m : zf_Me} (h : wp_141 v1 v2 m Q) : zf_M d 141 [.inr (.inr (1, 63)), .inl v1, .inl v2] m (zf_I Q) := by
  unfold wp_141 at h
  refine zf_M_of (Nat.le_of_ble_eq_true rfl) zm_141 (L := [some (.inr (.inr (1, 63))), some (.inl v1), some (.inl v2)]) rfl ?_
  refine zf_ld (pc' := 1) (v := .inr (.inr (1, 63))) dX8_addsPerson_0 rfl (fun _ _ _ => rfl) rfl rfl rfl ?_
  refine zf_gfr (pc' := 4) (b := 67) dX8_addsPerson_1 rfl rfl (by decide) rfl rfl ?_
  refine zf_ld (pc' := 5) (v := .inr (.inr (1, 63))) dX8_addsPerson_4 rfl (fun _ _ _ => rfl) rfl rfl rfl ?_
  refine zf_gfi (pc' := 8) dX8_addsPerson_5 rfl rfl (by decide) rfl rfl ?_
  refine zf_ld (pc' := 9) (v := .inl v1) dX8_addsPerson_8 rfl (fun _ _ _ => rfl) rfl rfl rfl ?_
  refine zf_ias (pc' := 10) dX8_addsPerson_9 rfl (⟨by decide, rfl⟩ : zf_arr 67 6).1 (⟨by decide, rfl⟩ : zf_arr 67 6).2 h.1 rfl (fun m1 e2 => ?_)
  replace h := h.2 m1 e2
  refine zf_ld (pc' := 11) (v := .inr (.inr (1, 63))) dX8_addsPerson_10 rfl (fun _ _ _ => rfl) rfl rfl rfl ?_
  refine zf_gfr (pc' := 14) (b := 68) dX8_addsPerson_11 rfl rfl (by decide) rfl rfl ?_
  refine zf_ld (pc' := 15) (v := .inr (.inr (1, 63))) dX8_addsPerson_14 rfl (fun _ _ _ => rfl) rfl rfl rfl ?_
  refine zf_gfi (pc' := 18) dX8_addsPerson_15 rfl rfl (by decide) rfl rfl ?_
  refine zf_ld (pc' := 19) (v := .inl v2) dX8_addsPerson_18 rfl (fun _ _ _ => rfl) rfl rfl rfl ?_
  refine zf_ias (pc' := 20) dX8_addsPerson_19 rfl (⟨by decide, rfl⟩ : zf_arr 68 6).1 (⟨by decide, rfl⟩ : zf_arr 68 6).2 h.1 rfl (fun m3 e4 => ?_)
  replace h := h.2 m3 e4
  refine zf_ld (pc' := 21) (v := .inr (.inr (1, 63))) dX8_addsPerson_20 rfl (fun _ _ _ => rfl) rfl rfl rfl ?_
  refine zf_gfr (pc' := 24) (b := 69) dX8_addsPerson_21 rfl rfl (by decide) rfl rfl ?_
  refine zf_ld (pc' := 25) (v := .inr (.inr (1, 63))) dX8_addsPerson_24 rfl (fun _ _ _ => rfl) rfl rfl rfl ?_
  refine zf_gfi (pc' := 28) dX8_addsPerson_25 rfl rfl (by decide) rfl rfl ?_
  refine zf_ic (v := 0) (pc' := 29) dX8_addsPerson_28 rfl rfl ?_
  refine zf_ias (pc' := 30) dX8_addsPerson_29 rfl (⟨by decide, rfl⟩ : zf_arr 69 6).1 (⟨by decide, rfl⟩ : zf_arr 69 6).2 h.1 rfl (fun m5 e6 => ?_)
  replace h := h.2 m5 e6
  refine zf_ld (pc' := 31) (v := .inr (.inr (1, 63))) dX8_addsPerson_30 rfl (fun _ _ _ => rfl) rfl rfl rfl ?_
  refine zf_in (pc' := 32) (S' := [.inr (.inr (1, 63)), .inr (.inr (1, 63))]) dX8_addsPerson_31 rfl (fun _ _ _ => rfl) ?_
  refine zf_gfi (pc' := 35) dX8_addsPerson_32 rfl rfl (by decide) rfl rfl ?_
  refine zf_in (pc' := 36) (S' := [.inl (m5.1 63 1), .inr (.inr (1, 63)), .inl (m5.1 63 1)]) dX8_addsPerson_35 rfl (fun _ _ _ => rfl) ?_
  refine zf_ic (v := 1) (pc' := 37) dX8_addsPerson_36 rfl rfl ?_
  refine zf_in (pc' := 38) (S' := [.inl ((m5.1 63 1) + 1), .inr (.inr (1, 63)), .inl (m5.1 63 1)]) dX8_addsPerson_37 rfl (fun _ _ _ => rfl) ?_
  refine zf_pf (pc' := 41) dX8_addsPerson_38 rfl rfl (by decide) rfl rfl rfl (fun m7 e8 => ?_)
  replace h := h m7 e8
  exact zf_ri dX8_addsPerson_41 rfl h
def zt_142 : zx_MT := (8, yX8_furlong, cX8_furlong, 3, (some FieldType.int), 2, 0)
theorem zm_142 : zx_m 142 = zt_142 := rfl
theorem dX8_furlong_r0 : zdcP cX8_furlong 0 [(.iload_n 1, 1), (.bipush (-3), 2), (.if_icmp .lt 8, 3), (.iload_n 1, 1), (.iconst 3, 1), (.if_icmp .le 10, 3), (.aload_n 0, 1), (.bipush (-6), 2), (.invokevirtual 115, 3), (.ireturn, 1), (.aload_n 0, 1), (.getfield 108, 3), (.bipush 24, 2), (.if_icmp .ne 12, 3), (.aload_n 0, 1), (.bipush (-7), 2)] := zdcA_ok (by decide +kernel)
theorem dX8_furlong_0 : decode cX8_furlong 0 = .ok (.iload_n 1, 1) := dX8_furlong_r0.1
theorem dX8_furlong_1 : decode cX8_furlong 1 = .ok (.bipush (-3), 2) := dX8_furlong_r0.2.1
theorem dX8_furlong_3 : decode cX8_furlong 3 = .ok (.if_icmp .lt 8, 3) := dX8_furlong_r0.2.2.1
theorem dX8_furlong_6 : decode cX8_furlong 6 = .ok (.iload_n 1, 1) := dX8_furlong_r0.2.2.2.1
theorem dX8_furlong_7 : decode cX8_furlong 7 = .ok (.iconst 3, 1) := dX8_furlong_r0.2.2.2.2.1
theorem dX8_furlong_8 : decode cX8_furlong 8 = .ok (.if_icmp .le 10, 3) := dX8_furlong_r0.2.2.2.2.2.1
theorem dX8_furlong_11 : decode cX8_furlong 11 = .ok (.aload_n 0, 1) := dX8_furlong_r0.2.2.2.2.2.2.1
theorem dX8_furlong_12 : decode cX8_furlong 12 = .ok (.bipush (-6), 2) := dX8_furlong_r0.2.2.2.2.2.2.2.1
theorem dX8_furlong_14 : decode cX8_furlong 14 = .ok (.invokevirtual 115, 3) := dX8_furlong_r0.2.2.2.2.2.2.2.2.1
theorem dX8_furlong_17 : decode cX8_furlong 17 = .ok (.ireturn, 1) := dX8_furlong_r0.2.2.2.2.2.2.2.2.2.1
theorem dX8_furlong_18 : decode cX8_furlong 18 = .ok (.aload_n 0, 1) := dX8_furlong_r0.2.2.2.2.2.2.2.2.2.2.1
theorem dX8_furlong_19 : decode cX8_furlong 19 = .ok (.getfield 108, 3) := dX8_furlong_r0.2.2.2.2.2.2.2.2.2.2.2.1
theorem dX8_furlong_22 : decode cX8_furlong 22 = .ok (.bipush 24, 2) := dX8_furlong_r0.2.2.2.2.2.2.2.2.2.2.2.2.1
theorem dX8_furlong_24 : decode cX8_furlong 24 = .ok (.if_icmp .ne 12, 3) := dX8_furlong_r0.2.2.2.2.2.2.2.2.2.2.2.2.2.1
theorem dX8_furlong_27 : decode cX8_furlong 27 = .ok (.aload_n 0, 1) := dX8_furlong_r0.2.2.2.2.2.2.2.2.2.2.2.2.2.2.1
theorem dX8_furlong_28 : decode cX8_furlong 28 = .ok (.bipush (-7), 2) := dX8_furlong_r0.2.2.2.2.2.2.2.2.2.2.2.2.2.2.2.1
theorem dX8_furlong_r30 : zdcP cX8_furlong 30 [(.invokevirtual 115, 3), (.goto 17, 3), (.aload_n 0, 1), (.iload_n 1, 1), (.iload_n 2, 1), (.ifCond .eq 7, 3), (.iconst 1, 1), (.goto 4, 3), (.iconst 0, 1), (.invokevirtual 133, 3), (.ireturn, 1)] := zdcA_ok (by decide +kernel)
theorem dX8_furlong_30 : decode cX8_furlong 30 = .ok (.invokevirtual 115, 3) := dX8_furlong_r30.1
theorem dX8_furlong_33 : decode cX8_furlong 33 = .ok (.goto 17, 3) := dX8_furlong_r30.2.1
theorem dX8_furlong_36 : decode cX8_furlong 36 = .ok (.aload_n 0, 1) := dX8_furlong_r30.2.2.1
theorem dX8_furlong_37 : decode cX8_furlong 37 = .ok (.iload_n 1, 1) := dX8_furlong_r30.2.2.2.1
theorem dX8_furlong_38 : decode cX8_furlong 38 = .ok (.iload_n 2, 1) := dX8_furlong_r30.2.2.2.2.1
theorem dX8_furlong_39 : decode cX8_furlong 39 = .ok (.ifCond .eq 7, 3) := dX8_furlong_r30.2.2.2.2.2.1
theorem dX8_furlong_42 : decode cX8_furlong 42 = .ok (.iconst 1, 1) := dX8_furlong_r30.2.2.2.2.2.2.1
theorem dX8_furlong_43 : decode cX8_furlong 43 = .ok (.goto 4, 3) := dX8_furlong_r30.2.2.2.2.2.2.2.1
theorem dX8_furlong_46 : decode cX8_furlong 46 = .ok (.iconst 0, 1) := dX8_furlong_r30.2.2.2.2.2.2.2.2.1
theorem dX8_furlong_47 : decode cX8_furlong 47 = .ok (.invokevirtual 133, 3) := dX8_furlong_r30.2.2.2.2.2.2.2.2.2.1
theorem dX8_furlong_50 : decode cX8_furlong 50 = .ok (.ireturn, 1) := dX8_furlong_r30.2.2.2.2.2.2.2.2.2.2.1
def wp_142 (v1 : Int32) (v2 : Int32) (m : zf_Me) (Q : Int32 → zf_Me → Prop) : Prop := ((v1.toInt < (-3) → wp_125 (-6) m (fun x1 m2 => Q x1 m2)) ∧ (v1.toInt ≥ (-3) → ((v1.toInt ≤ 3 → ((¬ ((m.1 63 0)).toInt = 24 → ((v2.toInt = 0 → wp_140 v1 0 m (fun x3 m4 => Q x3 m4)) ∧ (¬ v2.toInt = 0 → wp_140 v1 1 m (fun x5 m6 => Q x5 m6)))) ∧ (((m.1 63 0)).toInt = 24 → wp_125 (-7) m (fun x7 m8 => Q x7 m8)))) ∧ (v1.toInt > 3 → wp_125 (-6) m (fun x9 m10 => Q x9 m10)))))
theorem zr_142 {d : Nat} (hd : 1 ≤ d) {v1 : Int32} {v2 : Int32} {Q : Int32 → zf_Me → Prop} {m : zf_Me} (h : wp_142 v1 v2 m Q) : zf_M d 142 [.inr (.inr (1, 63)), .inl v1, .inl v2] m (zf_I Q) := by
  obtain ⟨e, rfl⟩ : ∃ z, d = z + 1 := ⟨d - 1, by omega⟩
  unfold wp_142 at h
  refine zf_M_of (Nat.le_of_ble_eq_true rfl) zm_142 (L := [some (.inr (.inr (1, 63))), some (.inl v1), some (.inl v2)]) rfl ?_
  refine zf_ld (pc' := 1) (v := .inl v1) dX8_furlong_0 rfl (fun _ _ _ => rfl) rfl rfl rfl ?_
  refine zf_bi (v := (-3)) (pc' := 3) dX8_furlong_1 rfl rfl ?_
  refine zf_icmp_lt (tgt := 11) (pc' := 6) dX8_furlong_3 rfl rfl (fun g => ?_) (fun g => ?_)
  · replace h := h.1 g
    refine zf_ld (pc' := 12) (v := .inr (.inr (1, 63))) dX8_furlong_11 rfl (fun _ _ _ => rfl) rfl rfl rfl ?_
    refine zf_bi (v := (-6)) (pc' := 14) dX8_furlong_12 rfl rfl ?_
    refine zf_iv (k := 125) (pc' := 17) (r := []) dX8_furlong_14 rfl rfl rfl rfl (by decide) rfl rfl rfl (zr_125 (by omega) h) (zf_kI (fun x1 m2 h => ?_))
    exact zf_ri dX8_furlong_17 rfl h
  · replace h := h.2 g
    refine zf_ld (pc' := 7) (v := .inl v1) dX8_furlong_6 rfl (fun _ _ _ => rfl) rfl rfl rfl ?_
    refine zf_ic (v := 3) (pc' := 8) dX8_furlong_7 rfl rfl ?_
    refine zf_icmp_le (tgt := 18) (pc' := 11) dX8_furlong_8 rfl rfl (fun g => ?_) (fun g => ?_)
    · replace h := h.1 g
      refine zf_ld (pc' := 19) (v := .inr (.inr (1, 63))) dX8_furlong_18 rfl (fun _ _ _ => rfl) rfl rfl rfl ?_
      refine zf_gfi (pc' := 22) dX8_furlong_19 rfl rfl (by decide) rfl rfl ?_
      refine zf_bi (v := 24) (pc' := 24) dX8_furlong_22 rfl rfl ?_
      refine zf_icmp_ne (tgt := 36) (pc' := 27) dX8_furlong_24 rfl rfl (fun g => ?_) (fun g => ?_)
      · replace h := h.1 g
        refine zf_ld (pc' := 37) (v := .inr (.inr (1, 63))) dX8_furlong_36 rfl (fun _ _ _ => rfl) rfl rfl rfl ?_
        refine zf_ld (pc' := 38) (v := .inl v1) dX8_furlong_37 rfl (fun _ _ _ => rfl) rfl rfl rfl ?_
        refine zf_ld (pc' := 39) (v := .inl v2) dX8_furlong_38 rfl (fun _ _ _ => rfl) rfl rfl rfl ?_
        refine zf_if_eq (tgt := 46) (pc' := 42) dX8_furlong_39 rfl rfl (fun g => ?_) (fun g => ?_)
        · replace h := h.1 g
          refine zf_ic (v := 0) (pc' := 47) dX8_furlong_46 rfl rfl ?_
          refine zf_iv (k := 140) (pc' := 50) (r := []) dX8_furlong_47 rfl rfl rfl rfl (by decide) rfl rfl rfl (zr_140 (by omega) h) (zf_kI (fun x3 m4 h => ?_))
          exact zf_ri dX8_furlong_50 rfl h
        · replace h := h.2 g
          refine zf_ic (v := 1) (pc' := 43) dX8_furlong_42 rfl rfl ?_
          refine zf_goto (tgt := 47) dX8_furlong_43 rfl ?_
          refine zf_iv (k := 140) (pc' := 50) (r := []) dX8_furlong_47 rfl rfl rfl rfl (by decide) rfl rfl rfl (zr_140 (by omega) h) (zf_kI (fun x5 m6 h => ?_))
          exact zf_ri dX8_furlong_50 rfl h
      · replace h := h.2 g
        refine zf_ld (pc' := 28) (v := .inr (.inr (1, 63))) dX8_furlong_27 rfl (fun _ _ _ => rfl) rfl rfl rfl ?_
        refine zf_bi (v := (-7)) (pc' := 30) dX8_furlong_28 rfl rfl ?_
        refine zf_iv (k := 125) (pc' := 33) (r := []) dX8_furlong_30 rfl rfl rfl rfl (by decide) rfl rfl rfl (zr_125 (by omega) h) (zf_kI (fun x7 m8 h => ?_))
        refine zf_goto (tgt := 50) dX8_furlong_33 rfl ?_
        exact zf_ri dX8_furlong_50 rfl h
    · replace h := h.2 g
      refine zf_ld (pc' := 12) (v := .inr (.inr (1, 63))) dX8_furlong_11 rfl (fun _ _ _ => rfl) rfl rfl rfl ?_
      refine zf_bi (v := (-6)) (pc' := 14) dX8_furlong_12 rfl rfl ?_
      refine zf_iv (k := 125) (pc' := 17) (r := []) dX8_furlong_14 rfl rfl rfl rfl (by decide) rfl rfl rfl (zr_125 (by omega) h) (zf_kI (fun x9 m10 h => ?_))
      exact zf_ri dX8_furlong_17 rfl h
def zt_143 : zx_MT := (8, yX8_person, cX8_person, 3, (some FieldType.int), 2, 0)
theorem zm_143 : zx_m 143 = zt_143 := rfl
theorem dX8_person_r0 : zdcP cX8_person 0 [(.iload_n 1, 1), (.ifCond .lt 9, 3), (.iload_n 1, 1), (.bipush 6, 2), (.if_icmp .le 9, 3), (.aload_n 0, 1), (.iconst (-1), 1), (.invokevirtual 115, 3), (.ireturn, 1), (.iload_n 2, 1), (.ifCond .lt 9, 3), (.iload_n 2, 1), (.bipush 9, 2), (.if_icmp .le 10, 3), (.aload_n 0, 1), (.bipush (-6), 2)] := zdcA_ok (by decide +kernel)
theorem dX8_person_0 : decode cX8_person 0 = .ok (.iload_n 1, 1) := dX8_person_r0.1
theorem dX8_person_1 : decode cX8_person 1 = .ok (.ifCond .lt 9, 3) := dX8_person_r0.2.1
theorem dX8_person_4 : decode cX8_person 4 = .ok (.iload_n 1, 1) := dX8_person_r0.2.2.1
theorem dX8_person_5 : decode cX8_person 5 = .ok (.bipush 6, 2) := dX8_person_r0.2.2.2.1
theorem dX8_person_7 : decode cX8_person 7 = .ok (.if_icmp .le 9, 3) := dX8_person_r0.2.2.2.2.1
theorem dX8_person_10 : decode cX8_person 10 = .ok (.aload_n 0, 1) := dX8_person_r0.2.2.2.2.2.1
theorem dX8_person_11 : decode cX8_person 11 = .ok (.iconst (-1), 1) := dX8_person_r0.2.2.2.2.2.2.1
theorem dX8_person_12 : decode cX8_person 12 = .ok (.invokevirtual 115, 3) := dX8_person_r0.2.2.2.2.2.2.2.1
theorem dX8_person_15 : decode cX8_person 15 = .ok (.ireturn, 1) := dX8_person_r0.2.2.2.2.2.2.2.2.1
theorem dX8_person_16 : decode cX8_person 16 = .ok (.iload_n 2, 1) := dX8_person_r0.2.2.2.2.2.2.2.2.2.1
theorem dX8_person_17 : decode cX8_person 17 = .ok (.ifCond .lt 9, 3) := dX8_person_r0.2.2.2.2.2.2.2.2.2.2.1
theorem dX8_person_20 : decode cX8_person 20 = .ok (.iload_n 2, 1) := dX8_person_r0.2.2.2.2.2.2.2.2.2.2.2.1
theorem dX8_person_21 : decode cX8_person 21 = .ok (.bipush 9, 2) := dX8_person_r0.2.2.2.2.2.2.2.2.2.2.2.2.1
theorem dX8_person_23 : decode cX8_person 23 = .ok (.if_icmp .le 10, 3) := dX8_person_r0.2.2.2.2.2.2.2.2.2.2.2.2.2.1
theorem dX8_person_26 : decode cX8_person 26 = .ok (.aload_n 0, 1) := dX8_person_r0.2.2.2.2.2.2.2.2.2.2.2.2.2.2.1
theorem dX8_person_27 : decode cX8_person 27 = .ok (.bipush (-6), 2) := dX8_person_r0.2.2.2.2.2.2.2.2.2.2.2.2.2.2.2.1
theorem dX8_person_r29 : zdcP cX8_person 29 [(.invokevirtual 115, 3), (.ireturn, 1), (.aload_n 0, 1), (.getfield 105, 3), (.bipush 6, 2), (.if_icmp .ne 12, 3), (.aload_n 0, 1), (.bipush (-7), 2), (.invokevirtual 115, 3), (.goto 9, 3), (.aload_n 0, 1), (.iload_n 1, 1), (.iload_n 2, 1), (.invokevirtual 136, 3), (.ireturn, 1)] := zdcA_ok (by decide +kernel)
theorem dX8_person_29 : decode cX8_person 29 = .ok (.invokevirtual 115, 3) := dX8_person_r29.1
theorem dX8_person_32 : decode cX8_person 32 = .ok (.ireturn, 1) := dX8_person_r29.2.1
theorem dX8_person_33 : decode cX8_person 33 = .ok (.aload_n 0, 1) := dX8_person_r29.2.2.1
theorem dX8_person_34 : decode cX8_person 34 = .ok (.getfield 105, 3) := dX8_person_r29.2.2.2.1
theorem dX8_person_37 : decode cX8_person 37 = .ok (.bipush 6, 2) := dX8_person_r29.2.2.2.2.1
theorem dX8_person_39 : decode cX8_person 39 = .ok (.if_icmp .ne 12, 3) := dX8_person_r29.2.2.2.2.2.1
theorem dX8_person_42 : decode cX8_person 42 = .ok (.aload_n 0, 1) := dX8_person_r29.2.2.2.2.2.2.1
theorem dX8_person_43 : decode cX8_person 43 = .ok (.bipush (-7), 2) := dX8_person_r29.2.2.2.2.2.2.2.1
theorem dX8_person_45 : decode cX8_person 45 = .ok (.invokevirtual 115, 3) := dX8_person_r29.2.2.2.2.2.2.2.2.1
theorem dX8_person_48 : decode cX8_person 48 = .ok (.goto 9, 3) := dX8_person_r29.2.2.2.2.2.2.2.2.2.1
theorem dX8_person_51 : decode cX8_person 51 = .ok (.aload_n 0, 1) := dX8_person_r29.2.2.2.2.2.2.2.2.2.2.1
theorem dX8_person_52 : decode cX8_person 52 = .ok (.iload_n 1, 1) := dX8_person_r29.2.2.2.2.2.2.2.2.2.2.2.1
theorem dX8_person_53 : decode cX8_person 53 = .ok (.iload_n 2, 1) := dX8_person_r29.2.2.2.2.2.2.2.2.2.2.2.2.1
theorem dX8_person_54 : decode cX8_person 54 = .ok (.invokevirtual 136, 3) := dX8_person_r29.2.2.2.2.2.2.2.2.2.2.2.2.2.1
theorem dX8_person_57 : decode cX8_person 57 = .ok (.ireturn, 1) := dX8_person_r29.2.2.2.2.2.2.2.2.2.2.2.2.2.2.1
def wp_143 (v1 : Int32) (v2 : Int32) (m : zf_Me) (Q : Int32 → zf_Me → Prop) : Prop := ((v1.toInt < 0 → wp_125 (-1) m (fun x1 m2 => Q x1 m2)) ∧ (v1.toInt ≥ 0 → ((v1.toInt ≤ 6 → ((v2.toInt < 0 → wp_125 (-6) m (fun x3 m4 => Q x3 m4)) ∧ (v2.toInt ≥ 0 → ((v2.toInt ≤ 9 → ((¬ ((m.1 63 1)).toInt = 6 → wp_141 v1 v2 m (fun x5 m6 => Q x5 m6)) ∧ (((m.1 63 1)).toInt = 6 → wp_125 (-7) m (fun x7 m8 => Q x7 m8)))) ∧ (v2.toInt > 9 → wp_125 (-6) m (fun x9 m10 => Q x9 m10)))))) ∧ (v1.toInt > 6 → wp_125 (-1) m (fun x11 m12 => Q x11 m12)))))
theorem zr_143 {d : Nat} (hd : 1 ≤ d) {v1 : Int32} {v2 : Int32} {Q : Int32 → zf_Me → Prop} {m : zf_Me} (h : wp_143 v1 v2 m Q) : zf_M d 143 [.inr (.inr (1, 63)), .inl v1, .inl v2] m (zf_I Q) := by
  obtain ⟨e, rfl⟩ : ∃ z, d = z + 1 := ⟨d - 1, by omega⟩
  unfold wp_143 at h
  refine zf_M_of (Nat.le_of_ble_eq_true rfl) zm_143 (L := [some (.inr (.inr (1, 63))), some (.inl v1), some (.inl v2)]) rfl ?_
  refine zf_ld (pc' := 1) (v := .inl v1) dX8_person_0 rfl (fun _ _ _ => rfl) rfl rfl rfl ?_
  refine zf_if_lt (tgt := 10) (pc' := 4) dX8_person_1 rfl rfl (fun g => ?_) (fun g => ?_)
  · replace h := h.1 g
    refine zf_ld (pc' := 11) (v := .inr (.inr (1, 63))) dX8_person_10 rfl (fun _ _ _ => rfl) rfl rfl rfl ?_
    refine zf_ic (v := (-1)) (pc' := 12) dX8_person_11 rfl rfl ?_
    refine zf_iv (k := 125) (pc' := 15) (r := []) dX8_person_12 rfl rfl rfl rfl (by decide) rfl rfl rfl (zr_125 (by omega) h) (zf_kI (fun x1 m2 h => ?_))
    exact zf_ri dX8_person_15 rfl h
  · replace h := h.2 g
    refine zf_ld (pc' := 5) (v := .inl v1) dX8_person_4 rfl (fun _ _ _ => rfl) rfl rfl rfl ?_
    refine zf_bi (v := 6) (pc' := 7) dX8_person_5 rfl rfl ?_
    refine zf_icmp_le (tgt := 16) (pc' := 10) dX8_person_7 rfl rfl (fun g => ?_) (fun g => ?_)
    · replace h := h.1 g
      refine zf_ld (pc' := 17) (v := .inl v2) dX8_person_16 rfl (fun _ _ _ => rfl) rfl rfl rfl ?_
      refine zf_if_lt (tgt := 26) (pc' := 20) dX8_person_17 rfl rfl (fun g => ?_) (fun g => ?_)
      · replace h := h.1 g
        refine zf_ld (pc' := 27) (v := .inr (.inr (1, 63))) dX8_person_26 rfl (fun _ _ _ => rfl) rfl rfl rfl ?_
        refine zf_bi (v := (-6)) (pc' := 29) dX8_person_27 rfl rfl ?_
        refine zf_iv (k := 125) (pc' := 32) (r := []) dX8_person_29 rfl rfl rfl rfl (by decide) rfl rfl rfl (zr_125 (by omega) h) (zf_kI (fun x3 m4 h => ?_))
        exact zf_ri dX8_person_32 rfl h
      · replace h := h.2 g
        refine zf_ld (pc' := 21) (v := .inl v2) dX8_person_20 rfl (fun _ _ _ => rfl) rfl rfl rfl ?_
        refine zf_bi (v := 9) (pc' := 23) dX8_person_21 rfl rfl ?_
        refine zf_icmp_le (tgt := 33) (pc' := 26) dX8_person_23 rfl rfl (fun g => ?_) (fun g => ?_)
        · replace h := h.1 g
          refine zf_ld (pc' := 34) (v := .inr (.inr (1, 63))) dX8_person_33 rfl (fun _ _ _ => rfl) rfl rfl rfl ?_
          refine zf_gfi (pc' := 37) dX8_person_34 rfl rfl (by decide) rfl rfl ?_
          refine zf_bi (v := 6) (pc' := 39) dX8_person_37 rfl rfl ?_
          refine zf_icmp_ne (tgt := 51) (pc' := 42) dX8_person_39 rfl rfl (fun g => ?_) (fun g => ?_)
          · replace h := h.1 g
            refine zf_ld (pc' := 52) (v := .inr (.inr (1, 63))) dX8_person_51 rfl (fun _ _ _ => rfl) rfl rfl rfl ?_
            refine zf_ld (pc' := 53) (v := .inl v1) dX8_person_52 rfl (fun _ _ _ => rfl) rfl rfl rfl ?_
            refine zf_ld (pc' := 54) (v := .inl v2) dX8_person_53 rfl (fun _ _ _ => rfl) rfl rfl rfl ?_
            refine zf_iv (k := 141) (pc' := 57) (r := []) dX8_person_54 rfl rfl rfl rfl (by decide) rfl rfl rfl (zr_141 (by omega) h) (zf_kI (fun x5 m6 h => ?_))
            exact zf_ri dX8_person_57 rfl h
          · replace h := h.2 g
            refine zf_ld (pc' := 43) (v := .inr (.inr (1, 63))) dX8_person_42 rfl (fun _ _ _ => rfl) rfl rfl rfl ?_
            refine zf_bi (v := (-7)) (pc' := 45) dX8_person_43 rfl rfl ?_
            refine zf_iv (k := 125) (pc' := 48) (r := []) dX8_person_45 rfl rfl rfl rfl (by decide) rfl rfl rfl (zr_125 (by omega) h) (zf_kI (fun x7 m8 h => ?_))
            refine zf_goto (tgt := 57) dX8_person_48 rfl ?_
            exact zf_ri dX8_person_57 rfl h
        · replace h := h.2 g
          refine zf_ld (pc' := 27) (v := .inr (.inr (1, 63))) dX8_person_26 rfl (fun _ _ _ => rfl) rfl rfl rfl ?_
          refine zf_bi (v := (-6)) (pc' := 29) dX8_person_27 rfl rfl ?_
          refine zf_iv (k := 125) (pc' := 32) (r := []) dX8_person_29 rfl rfl rfl rfl (by decide) rfl rfl rfl (zr_125 (by omega) h) (zf_kI (fun x9 m10 h => ?_))
          exact zf_ri dX8_person_32 rfl h
    · replace h := h.2 g
      refine zf_ld (pc' := 11) (v := .inr (.inr (1, 63))) dX8_person_10 rfl (fun _ _ _ => rfl) rfl rfl rfl ?_
      refine zf_ic (v := (-1)) (pc' := 12) dX8_person_11 rfl rfl ?_
      refine zf_iv (k := 125) (pc' := 15) (r := []) dX8_person_12 rfl rfl rfl rfl (by decide) rfl rfl rfl (zr_125 (by omega) h) (zf_kI (fun x11 m12 h => ?_))
      exact zf_ri dX8_person_15 rfl h
def zt_144 : zx_MT := (8, yX8_furlongOf, cX8_furlongOf, 3, (some FieldType.int), 2, 0)
theorem zm_144 : zx_m 144 = zt_144 := rfl
theorem dX8_furlongOf_r0 : zdcP cX8_furlongOf 0 [(.aload_n 0, 1), (.iload_n 1, 1), (.invokevirtual 139, 3), (.ifCond .eq 12, 3), (.iload_n 2, 1), (.ifCond .lt 8, 3), (.iload_n 2, 1), (.iconst 1, 1), (.if_icmp .le 10, 3), (.aload_n 0, 1), (.bipush (-5), 2), (.invokevirtual 142, 3), (.ireturn, 1), (.iload_n 2, 1), (.ifCond .ne 12, 3), (.aload_n 0, 1)] := zdcA_ok (by decide +kernel)
theorem dX8_furlongOf_0 : decode cX8_furlongOf 0 = .ok (.aload_n 0, 1) := dX8_furlongOf_r0.1
theorem dX8_furlongOf_1 : decode cX8_furlongOf 1 = .ok (.iload_n 1, 1) := dX8_furlongOf_r0.2.1
theorem dX8_furlongOf_2 : decode cX8_furlongOf 2 = .ok (.invokevirtual 139, 3) := dX8_furlongOf_r0.2.2.1
theorem dX8_furlongOf_5 : decode cX8_furlongOf 5 = .ok (.ifCond .eq 12, 3) := dX8_furlongOf_r0.2.2.2.1
theorem dX8_furlongOf_8 : decode cX8_furlongOf 8 = .ok (.iload_n 2, 1) := dX8_furlongOf_r0.2.2.2.2.1
theorem dX8_furlongOf_9 : decode cX8_furlongOf 9 = .ok (.ifCond .lt 8, 3) := dX8_furlongOf_r0.2.2.2.2.2.1
theorem dX8_furlongOf_12 : decode cX8_furlongOf 12 = .ok (.iload_n 2, 1) := dX8_furlongOf_r0.2.2.2.2.2.2.1
theorem dX8_furlongOf_13 : decode cX8_furlongOf 13 = .ok (.iconst 1, 1) := dX8_furlongOf_r0.2.2.2.2.2.2.2.1
theorem dX8_furlongOf_14 : decode cX8_furlongOf 14 = .ok (.if_icmp .le 10, 3) := dX8_furlongOf_r0.2.2.2.2.2.2.2.2.1
theorem dX8_furlongOf_17 : decode cX8_furlongOf 17 = .ok (.aload_n 0, 1) := dX8_furlongOf_r0.2.2.2.2.2.2.2.2.2.1
theorem dX8_furlongOf_18 : decode cX8_furlongOf 18 = .ok (.bipush (-5), 2) := dX8_furlongOf_r0.2.2.2.2.2.2.2.2.2.2.1
theorem dX8_furlongOf_20 : decode cX8_furlongOf 20 = .ok (.invokevirtual 142, 3) := dX8_furlongOf_r0.2.2.2.2.2.2.2.2.2.2.2.1
theorem dX8_furlongOf_23 : decode cX8_furlongOf 23 = .ok (.ireturn, 1) := dX8_furlongOf_r0.2.2.2.2.2.2.2.2.2.2.2.2.1
theorem dX8_furlongOf_24 : decode cX8_furlongOf 24 = .ok (.iload_n 2, 1) := dX8_furlongOf_r0.2.2.2.2.2.2.2.2.2.2.2.2.2.1
theorem dX8_furlongOf_25 : decode cX8_furlongOf 25 = .ok (.ifCond .ne 12, 3) := dX8_furlongOf_r0.2.2.2.2.2.2.2.2.2.2.2.2.2.2.1
theorem dX8_furlongOf_28 : decode cX8_furlongOf 28 = .ok (.aload_n 0, 1) := dX8_furlongOf_r0.2.2.2.2.2.2.2.2.2.2.2.2.2.2.2.1
theorem dX8_furlongOf_r29 : zdcP cX8_furlongOf 29 [(.getfield 41, 3), (.iload_n 1, 1), (.iaload, 1), (.goto 9, 3), (.aload_n 0, 1), (.getfield 44, 3), (.iload_n 1, 1), (.iaload, 1), (.ireturn, 1)] := zdcA_ok (by decide +kernel)
theorem dX8_furlongOf_29 : decode cX8_furlongOf 29 = .ok (.getfield 41, 3) := dX8_furlongOf_r29.1
theorem dX8_furlongOf_32 : decode cX8_furlongOf 32 = .ok (.iload_n 1, 1) := dX8_furlongOf_r29.2.1
theorem dX8_furlongOf_33 : decode cX8_furlongOf 33 = .ok (.iaload, 1) := dX8_furlongOf_r29.2.2.1
theorem dX8_furlongOf_34 : decode cX8_furlongOf 34 = .ok (.goto 9, 3) := dX8_furlongOf_r29.2.2.2.1
theorem dX8_furlongOf_37 : decode cX8_furlongOf 37 = .ok (.aload_n 0, 1) := dX8_furlongOf_r29.2.2.2.2.1
theorem dX8_furlongOf_38 : decode cX8_furlongOf 38 = .ok (.getfield 44, 3) := dX8_furlongOf_r29.2.2.2.2.2.1
theorem dX8_furlongOf_41 : decode cX8_furlongOf 41 = .ok (.iload_n 1, 1) := dX8_furlongOf_r29.2.2.2.2.2.2.1
theorem dX8_furlongOf_42 : decode cX8_furlongOf 42 = .ok (.iaload, 1) := dX8_furlongOf_r29.2.2.2.2.2.2.2.1
theorem dX8_furlongOf_43 : decode cX8_furlongOf 43 = .ok (.ireturn, 1) := dX8_furlongOf_r29.2.2.2.2.2.2.2.2.1
def wp_144 (v1 : Int32) (v2 : Int32) (m : zf_Me) (Q : Int32 → zf_Me → Prop) : Prop := wp_129 v1 m (fun b1 m2 => ((b1 = false → wp_126 (-5) m2 (fun x3 m4 => Q x3 m4)) ∧ (b1 = true → ((v2.toInt < 0 → wp_126 (-5) m2 (fun x5 m6 => Q x5 m6)) ∧ (v2.toInt ≥ 0 → ((v2.toInt ≤ 1 → ((¬ v2.toInt = 0 → ((0 ≤ (Int32.toInt v1) ∧ (Int32.toInt v1) < (24 : Int)) ∧ Q (m2.1 66 (Int32.toInt v1).toNat) m2)) ∧ (v2.toInt = 0 → ((0 ≤ (Int32.toInt v1) ∧ (Int32.toInt v1) < (24 : Int)) ∧ Q (m2.1 65 (Int32.toInt v1).toNat) m2)))) ∧ (v2.toInt > 1 → wp_126 (-5) m2 (fun x7 m8 => Q x7 m8))))))))
theorem zr_144 {d : Nat} (hd : 1 ≤ d) {v1 : Int32} {v2 : Int32} {Q : Int32 → zf_Me → Prop} {m : zf_Me} (h : wp_144 v1 v2 m Q) : zf_M d 144 [.inr (.inr (1, 63)), .inl v1, .inl v2] m (zf_I Q) := by
  obtain ⟨e, rfl⟩ : ∃ z, d = z + 1 := ⟨d - 1, by omega⟩
  unfold wp_144 at h
  refine zf_M_of (Nat.le_of_ble_eq_true rfl) zm_144 (L := [some (.inr (.inr (1, 63))), some (.inl v1), some (.inl v2)]) rfl ?_
  refine zf_ld (pc' := 1) (v := .inr (.inr (1, 63))) dX8_furlongOf_0 rfl (fun _ _ _ => rfl) rfl rfl rfl ?_
  refine zf_ld (pc' := 2) (v := .inl v1) dX8_furlongOf_1 rfl (fun _ _ _ => rfl) rfl rfl rfl ?_
  refine zf_iv (k := 129) (pc' := 5) (r := []) dX8_furlongOf_2 rfl rfl rfl rfl (by decide) rfl rfl rfl (zr_129 (by omega) h) (zf_kB (fun b1 m2 h => ?_))
  refine zf_ib_eq (tgt := 17) (pc' := 8) dX8_furlongOf_5 rfl rfl (fun g => ?_) (fun g => ?_)
  · replace h := h.1 g
    refine zf_ld (pc' := 18) (v := .inr (.inr (1, 63))) dX8_furlongOf_17 rfl (fun _ _ _ => rfl) rfl rfl rfl ?_
    refine zf_bi (v := (-5)) (pc' := 20) dX8_furlongOf_18 rfl rfl ?_
    refine zf_iv (k := 126) (pc' := 23) (r := []) dX8_furlongOf_20 rfl rfl rfl rfl (by decide) rfl rfl rfl (zr_126 (by omega) h) (zf_kI (fun x3 m4 h => ?_))
    exact zf_ri dX8_furlongOf_23 rfl h
  · replace h := h.2 g
    refine zf_ld (pc' := 9) (v := .inl v2) dX8_furlongOf_8 rfl (fun _ _ _ => rfl) rfl rfl rfl ?_
    refine zf_if_lt (tgt := 17) (pc' := 12) dX8_furlongOf_9 rfl rfl (fun g => ?_) (fun g => ?_)
    · replace h := h.1 g
      refine zf_ld (pc' := 18) (v := .inr (.inr (1, 63))) dX8_furlongOf_17 rfl (fun _ _ _ => rfl) rfl rfl rfl ?_
      refine zf_bi (v := (-5)) (pc' := 20) dX8_furlongOf_18 rfl rfl ?_
      refine zf_iv (k := 126) (pc' := 23) (r := []) dX8_furlongOf_20 rfl rfl rfl rfl (by decide) rfl rfl rfl (zr_126 (by omega) h) (zf_kI (fun x5 m6 h => ?_))
      exact zf_ri dX8_furlongOf_23 rfl h
    · replace h := h.2 g
      refine zf_ld (pc' := 13) (v := .inl v2) dX8_furlongOf_12 rfl (fun _ _ _ => rfl) rfl rfl rfl ?_
      refine zf_ic (v := 1) (pc' := 14) dX8_furlongOf_13 rfl rfl ?_
      refine zf_icmp_le (tgt := 24) (pc' := 17) dX8_furlongOf_14 rfl rfl (fun g => ?_) (fun g => ?_)
      · replace h := h.1 g
        refine zf_ld (pc' := 25) (v := .inl v2) dX8_furlongOf_24 rfl (fun _ _ _ => rfl) rfl rfl rfl ?_
        refine zf_if_ne (tgt := 37) (pc' := 28) dX8_furlongOf_25 rfl rfl (fun g => ?_) (fun g => ?_)
        · replace h := h.1 g
          refine zf_ld (pc' := 38) (v := .inr (.inr (1, 63))) dX8_furlongOf_37 rfl (fun _ _ _ => rfl) rfl rfl rfl ?_
          refine zf_gfr (pc' := 41) (b := 66) dX8_furlongOf_38 rfl rfl (by decide) rfl rfl ?_
          refine zf_ld (pc' := 42) (v := .inl v1) dX8_furlongOf_41 rfl (fun _ _ _ => rfl) rfl rfl rfl ?_
          refine zf_ial (pc' := 43) dX8_furlongOf_42 rfl (⟨by decide, rfl⟩ : zf_arr 66 24).1 (⟨by decide, rfl⟩ : zf_arr 66 24).2 h.1 rfl ?_
          replace h := h.2
          exact zf_ri dX8_furlongOf_43 rfl h
        · replace h := h.2 g
          refine zf_ld (pc' := 29) (v := .inr (.inr (1, 63))) dX8_furlongOf_28 rfl (fun _ _ _ => rfl) rfl rfl rfl ?_
          refine zf_gfr (pc' := 32) (b := 65) dX8_furlongOf_29 rfl rfl (by decide) rfl rfl ?_
          refine zf_ld (pc' := 33) (v := .inl v1) dX8_furlongOf_32 rfl (fun _ _ _ => rfl) rfl rfl rfl ?_
          refine zf_ial (pc' := 34) dX8_furlongOf_33 rfl (⟨by decide, rfl⟩ : zf_arr 65 24).1 (⟨by decide, rfl⟩ : zf_arr 65 24).2 h.1 rfl ?_
          replace h := h.2
          refine zf_goto (tgt := 43) dX8_furlongOf_34 rfl ?_
          exact zf_ri dX8_furlongOf_43 rfl h
      · replace h := h.2 g
        refine zf_ld (pc' := 18) (v := .inr (.inr (1, 63))) dX8_furlongOf_17 rfl (fun _ _ _ => rfl) rfl rfl rfl ?_
        refine zf_bi (v := (-5)) (pc' := 20) dX8_furlongOf_18 rfl rfl ?_
        refine zf_iv (k := 126) (pc' := 23) (r := []) dX8_furlongOf_20 rfl rfl rfl rfl (by decide) rfl rfl rfl (zr_126 (by omega) h) (zf_kI (fun x7 m8 h => ?_))
        exact zf_ri dX8_furlongOf_23 rfl h
def zt_145 : zx_MT := (8, yX8_personOf, cX8_personOf, 3, (some FieldType.int), 2, 0)
theorem zm_145 : zx_m 145 = zt_145 := rfl
theorem dX8_personOf_r0 : zdcP cX8_personOf 0 [(.aload_n 0, 1), (.iload_n 1, 1), (.invokevirtual 119, 3), (.ifCond .ne 10, 3), (.aload_n 0, 1), (.bipush (-5), 2), (.invokevirtual 115, 3), (.ireturn, 1), (.iload_n 2, 1)] := zdcA_ok (by decide +kernel)
theorem dX8_personOf_0 : decode cX8_personOf 0 = .ok (.aload_n 0, 1) := dX8_personOf_r0.1
theorem dX8_personOf_1 : decode cX8_personOf 1 = .ok (.iload_n 1, 1) := dX8_personOf_r0.2.1
theorem dX8_personOf_2 : decode cX8_personOf 2 = .ok (.invokevirtual 119, 3) := dX8_personOf_r0.2.2.1
theorem dX8_personOf_5 : decode cX8_personOf 5 = .ok (.ifCond .ne 10, 3) := dX8_personOf_r0.2.2.2.1
theorem dX8_personOf_8 : decode cX8_personOf 8 = .ok (.aload_n 0, 1) := dX8_personOf_r0.2.2.2.2.1
theorem dX8_personOf_9 : decode cX8_personOf 9 = .ok (.bipush (-5), 2) := dX8_personOf_r0.2.2.2.2.2.1
theorem dX8_personOf_11 : decode cX8_personOf 11 = .ok (.invokevirtual 115, 3) := dX8_personOf_r0.2.2.2.2.2.2.1
theorem dX8_personOf_14 : decode cX8_personOf 14 = .ok (.ireturn, 1) := dX8_personOf_r0.2.2.2.2.2.2.2.1
theorem dX8_personOf_15 : decode cX8_personOf 15 = .ok (.iload_n 2, 1) := dX8_personOf_r0.2.2.2.2.2.2.2.2.1
theorem dX8_personOf_16 : decode cX8_personOf 16 = .ok (.tableswitch 67 0 3 #[32, 39, 46, 53], 32) := by decide +kernel
theorem dX8_personOf_r48 : zdcP cX8_personOf 48 [(.aload_n 0, 1), (.getfield 47, 3), (.iload_n 1, 1), (.iaload, 1), (.ireturn, 1), (.aload_n 0, 1), (.getfield 50, 3), (.iload_n 1, 1), (.iaload, 1), (.ireturn, 1), (.aload_n 0, 1), (.getfield 53, 3), (.iload_n 1, 1), (.iaload, 1), (.ireturn, 1), (.aload_n 0, 1)] := zdcA_ok (by decide +kernel)
theorem dX8_personOf_48 : decode cX8_personOf 48 = .ok (.aload_n 0, 1) := dX8_personOf_r48.1
theorem dX8_personOf_49 : decode cX8_personOf 49 = .ok (.getfield 47, 3) := dX8_personOf_r48.2.1
theorem dX8_personOf_52 : decode cX8_personOf 52 = .ok (.iload_n 1, 1) := dX8_personOf_r48.2.2.1
theorem dX8_personOf_53 : decode cX8_personOf 53 = .ok (.iaload, 1) := dX8_personOf_r48.2.2.2.1
theorem dX8_personOf_54 : decode cX8_personOf 54 = .ok (.ireturn, 1) := dX8_personOf_r48.2.2.2.2.1
theorem dX8_personOf_55 : decode cX8_personOf 55 = .ok (.aload_n 0, 1) := dX8_personOf_r48.2.2.2.2.2.1
theorem dX8_personOf_56 : decode cX8_personOf 56 = .ok (.getfield 50, 3) := dX8_personOf_r48.2.2.2.2.2.2.1
theorem dX8_personOf_59 : decode cX8_personOf 59 = .ok (.iload_n 1, 1) := dX8_personOf_r48.2.2.2.2.2.2.2.1
theorem dX8_personOf_60 : decode cX8_personOf 60 = .ok (.iaload, 1) := dX8_personOf_r48.2.2.2.2.2.2.2.2.1
theorem dX8_personOf_61 : decode cX8_personOf 61 = .ok (.ireturn, 1) := dX8_personOf_r48.2.2.2.2.2.2.2.2.2.1
theorem dX8_personOf_62 : decode cX8_personOf 62 = .ok (.aload_n 0, 1) := dX8_personOf_r48.2.2.2.2.2.2.2.2.2.2.1
theorem dX8_personOf_63 : decode cX8_personOf 63 = .ok (.getfield 53, 3) := dX8_personOf_r48.2.2.2.2.2.2.2.2.2.2.2.1
theorem dX8_personOf_66 : decode cX8_personOf 66 = .ok (.iload_n 1, 1) := dX8_personOf_r48.2.2.2.2.2.2.2.2.2.2.2.2.1
theorem dX8_personOf_67 : decode cX8_personOf 67 = .ok (.iaload, 1) := dX8_personOf_r48.2.2.2.2.2.2.2.2.2.2.2.2.2.1
theorem dX8_personOf_68 : decode cX8_personOf 68 = .ok (.ireturn, 1) := dX8_personOf_r48.2.2.2.2.2.2.2.2.2.2.2.2.2.2.1
theorem dX8_personOf_69 : decode cX8_personOf 69 = .ok (.aload_n 0, 1) := dX8_personOf_r48.2.2.2.2.2.2.2.2.2.2.2.2.2.2.2.1
theorem dX8_personOf_r70 : zdcP cX8_personOf 70 [(.getfield 9, 3), (.iload_n 1, 1), (.if_icmp .ne 7, 3), (.iconst 1, 1), (.goto 4, 3), (.iconst 0, 1), (.ireturn, 1), (.aload_n 0, 1), (.bipush (-5), 2), (.invokevirtual 115, 3), (.ireturn, 1)] := zdcA_ok (by decide +kernel)
theorem dX8_personOf_70 : decode cX8_personOf 70 = .ok (.getfield 9, 3) := dX8_personOf_r70.1
theorem dX8_personOf_73 : decode cX8_personOf 73 = .ok (.iload_n 1, 1) := dX8_personOf_r70.2.1
theorem dX8_personOf_74 : decode cX8_personOf 74 = .ok (.if_icmp .ne 7, 3) := dX8_personOf_r70.2.2.1
theorem dX8_personOf_77 : decode cX8_personOf 77 = .ok (.iconst 1, 1) := dX8_personOf_r70.2.2.2.1
theorem dX8_personOf_78 : decode cX8_personOf 78 = .ok (.goto 4, 3) := dX8_personOf_r70.2.2.2.2.1
theorem dX8_personOf_81 : decode cX8_personOf 81 = .ok (.iconst 0, 1) := dX8_personOf_r70.2.2.2.2.2.1
theorem dX8_personOf_82 : decode cX8_personOf 82 = .ok (.ireturn, 1) := dX8_personOf_r70.2.2.2.2.2.2.1
theorem dX8_personOf_83 : decode cX8_personOf 83 = .ok (.aload_n 0, 1) := dX8_personOf_r70.2.2.2.2.2.2.2.1
theorem dX8_personOf_84 : decode cX8_personOf 84 = .ok (.bipush (-5), 2) := dX8_personOf_r70.2.2.2.2.2.2.2.2.1
theorem dX8_personOf_86 : decode cX8_personOf 86 = .ok (.invokevirtual 115, 3) := dX8_personOf_r70.2.2.2.2.2.2.2.2.2.1
theorem dX8_personOf_89 : decode cX8_personOf 89 = .ok (.ireturn, 1) := dX8_personOf_r70.2.2.2.2.2.2.2.2.2.2.1
def wp_145 (v1 : Int32) (v2 : Int32) (m : zf_Me) (Q : Int32 → zf_Me → Prop) : Prop := wp_128 v1 m (fun b1 m2 => ((b1 = true → (((v2.toInt < 0 ∨ v2.toInt > 3) → wp_125 (-5) m2 (fun x3 m4 => Q x3 m4)) ∧ (v2.toInt = 0 → ((0 ≤ (Int32.toInt v1) ∧ (Int32.toInt v1) < (6 : Int)) ∧ Q (m2.1 67 (Int32.toInt v1).toNat) m2)) ∧ (v2.toInt = 1 → ((0 ≤ (Int32.toInt v1) ∧ (Int32.toInt v1) < (6 : Int)) ∧ Q (m2.1 68 (Int32.toInt v1).toNat) m2)) ∧ (v2.toInt = 2 → ((0 ≤ (Int32.toInt v1) ∧ (Int32.toInt v1) < (6 : Int)) ∧ Q (m2.1 69 (Int32.toInt v1).toNat) m2)) ∧ (v2.toInt = 3 → ((¬ ((m2.1 63 2)).toInt = v1.toInt → Q 0 m2) ∧ (((m2.1 63 2)).toInt = v1.toInt → Q 1 m2))))) ∧ (b1 = false → wp_125 (-5) m2 (fun x5 m6 => Q x5 m6))))
theorem zr_145 {d : Nat} (hd : 1 ≤ d) {v1 : Int32} {v2 : Int32} {Q : Int32 → zf_Me → Prop} {m : zf_Me} (h : wp_145 v1 v2 m Q) : zf_M d 145 [.inr (.inr (1, 63)), .inl v1, .inl v2] m (zf_I Q) := by
  obtain ⟨e, rfl⟩ : ∃ z, d = z + 1 := ⟨d - 1, by omega⟩
  unfold wp_145 at h
  refine zf_M_of (Nat.le_of_ble_eq_true rfl) zm_145 (L := [some (.inr (.inr (1, 63))), some (.inl v1), some (.inl v2)]) rfl ?_
  refine zf_ld (pc' := 1) (v := .inr (.inr (1, 63))) dX8_personOf_0 rfl (fun _ _ _ => rfl) rfl rfl rfl ?_
  refine zf_ld (pc' := 2) (v := .inl v1) dX8_personOf_1 rfl (fun _ _ _ => rfl) rfl rfl rfl ?_
  refine zf_iv (k := 128) (pc' := 5) (r := []) dX8_personOf_2 rfl rfl rfl rfl (by decide) rfl rfl rfl (zr_128 (by omega) h) (zf_kB (fun b1 m2 h => ?_))
  refine zf_ib_ne (tgt := 15) (pc' := 8) dX8_personOf_5 rfl rfl (fun g => ?_) (fun g => ?_)
  · replace h := h.1 g
    refine zf_ld (pc' := 16) (v := .inl v2) dX8_personOf_15 rfl (fun _ _ _ => rfl) rfl rfl rfl ?_
    refine zf_tsc (tgd := 83) dX8_personOf_16 rfl [48, 55, 62, 69] (by decide) (by decide) (fun g => ?_) (zl_cons (fun g => ?_) (zl_cons (fun g => ?_) (zl_cons (fun g => ?_) (zl_cons (fun g => ?_) (zl_nil)))))
    · replace h := h.1 (by omega)
      refine zf_ld (pc' := 84) (v := .inr (.inr (1, 63))) dX8_personOf_83 rfl (fun _ _ _ => rfl) rfl rfl rfl ?_
      refine zf_bi (v := (-5)) (pc' := 86) dX8_personOf_84 rfl rfl ?_
      refine zf_iv (k := 125) (pc' := 89) (r := []) dX8_personOf_86 rfl rfl rfl rfl (by decide) rfl rfl rfl (zr_125 (by omega) h) (zf_kI (fun x3 m4 h => ?_))
      exact zf_ri dX8_personOf_89 rfl h
    · replace h := h.2.1 (by omega)
      refine zf_ld (pc' := 49) (v := .inr (.inr (1, 63))) dX8_personOf_48 rfl (fun _ _ _ => rfl) rfl rfl rfl ?_
      refine zf_gfr (pc' := 52) (b := 67) dX8_personOf_49 rfl rfl (by decide) rfl rfl ?_
      refine zf_ld (pc' := 53) (v := .inl v1) dX8_personOf_52 rfl (fun _ _ _ => rfl) rfl rfl rfl ?_
      refine zf_ial (pc' := 54) dX8_personOf_53 rfl (⟨by decide, rfl⟩ : zf_arr 67 6).1 (⟨by decide, rfl⟩ : zf_arr 67 6).2 h.1 rfl ?_
      replace h := h.2
      exact zf_ri dX8_personOf_54 rfl h
    · replace h := h.2.2.1 (by omega)
      refine zf_ld (pc' := 56) (v := .inr (.inr (1, 63))) dX8_personOf_55 rfl (fun _ _ _ => rfl) rfl rfl rfl ?_
      refine zf_gfr (pc' := 59) (b := 68) dX8_personOf_56 rfl rfl (by decide) rfl rfl ?_
      refine zf_ld (pc' := 60) (v := .inl v1) dX8_personOf_59 rfl (fun _ _ _ => rfl) rfl rfl rfl ?_
      refine zf_ial (pc' := 61) dX8_personOf_60 rfl (⟨by decide, rfl⟩ : zf_arr 68 6).1 (⟨by decide, rfl⟩ : zf_arr 68 6).2 h.1 rfl ?_
      replace h := h.2
      exact zf_ri dX8_personOf_61 rfl h
    · replace h := h.2.2.2.1 (by omega)
      refine zf_ld (pc' := 63) (v := .inr (.inr (1, 63))) dX8_personOf_62 rfl (fun _ _ _ => rfl) rfl rfl rfl ?_
      refine zf_gfr (pc' := 66) (b := 69) dX8_personOf_63 rfl rfl (by decide) rfl rfl ?_
      refine zf_ld (pc' := 67) (v := .inl v1) dX8_personOf_66 rfl (fun _ _ _ => rfl) rfl rfl rfl ?_
      refine zf_ial (pc' := 68) dX8_personOf_67 rfl (⟨by decide, rfl⟩ : zf_arr 69 6).1 (⟨by decide, rfl⟩ : zf_arr 69 6).2 h.1 rfl ?_
      replace h := h.2
      exact zf_ri dX8_personOf_68 rfl h
    · replace h := h.2.2.2.2 (by omega)
      refine zf_ld (pc' := 70) (v := .inr (.inr (1, 63))) dX8_personOf_69 rfl (fun _ _ _ => rfl) rfl rfl rfl ?_
      refine zf_gfi (pc' := 73) dX8_personOf_70 rfl rfl (by decide) rfl rfl ?_
      refine zf_ld (pc' := 74) (v := .inl v1) dX8_personOf_73 rfl (fun _ _ _ => rfl) rfl rfl rfl ?_
      refine zf_icmp_ne (tgt := 81) (pc' := 77) dX8_personOf_74 rfl rfl (fun g => ?_) (fun g => ?_)
      · replace h := h.1 g
        refine zf_ic (v := 0) (pc' := 82) dX8_personOf_81 rfl rfl ?_
        exact zf_ri dX8_personOf_82 rfl h
      · replace h := h.2 g
        refine zf_ic (v := 1) (pc' := 78) dX8_personOf_77 rfl rfl ?_
        refine zf_goto (tgt := 82) dX8_personOf_78 rfl ?_
        exact zf_ri dX8_personOf_82 rfl h
  · replace h := h.2 g
    refine zf_ld (pc' := 9) (v := .inr (.inr (1, 63))) dX8_personOf_8 rfl (fun _ _ _ => rfl) rfl rfl rfl ?_
    refine zf_bi (v := (-5)) (pc' := 11) dX8_personOf_9 rfl rfl ?_
    refine zf_iv (k := 125) (pc' := 14) (r := []) dX8_personOf_11 rfl rfl rfl rfl (by decide) rfl rfl rfl (zr_125 (by omega) h) (zf_kI (fun x5 m6 h => ?_))
    exact zf_ri dX8_personOf_14 rfl h
end
section
/-! part 37: methods 146..: laid by wip/flat/dec.py -/
def zt_146 : zx_MT := (8, yX8_isAsked, cX8_isAsked, 3, (some FieldType.boolean), 2, 0)
theorem zm_146 : zx_m 146 = zt_146 := rfl
theorem dX8_isAsked_r0 : zdcP cX8_isAsked 0 [(.iload_n 2, 1), (.iload_n 1, 1), (.iconst 3, 1), (.if_icmp .ge 7, 3), (.iconst 1, 1), (.goto 4, 3), (.iconst 0, 1), (.if_icmp .lt 23, 3), (.iload_n 2, 1), (.iload_n 1, 1), (.iconst 2, 1), (.if_icmp .ne 8, 3), (.bipush 99, 2), (.goto 5, 3), (.bipush 9, 2), (.if_icmp .gt 7, 3)] := zdcA_ok (by decide +kernel)
theorem dX8_isAsked_0 : decode cX8_isAsked 0 = .ok (.iload_n 2, 1) := dX8_isAsked_r0.1
theorem dX8_isAsked_1 : decode cX8_isAsked 1 = .ok (.iload_n 1, 1) := dX8_isAsked_r0.2.1
theorem dX8_isAsked_2 : decode cX8_isAsked 2 = .ok (.iconst 3, 1) := dX8_isAsked_r0.2.2.1
theorem dX8_isAsked_3 : decode cX8_isAsked 3 = .ok (.if_icmp .ge 7, 3) := dX8_isAsked_r0.2.2.2.1
theorem dX8_isAsked_6 : decode cX8_isAsked 6 = .ok (.iconst 1, 1) := dX8_isAsked_r0.2.2.2.2.1
theorem dX8_isAsked_7 : decode cX8_isAsked 7 = .ok (.goto 4, 3) := dX8_isAsked_r0.2.2.2.2.2.1
theorem dX8_isAsked_10 : decode cX8_isAsked 10 = .ok (.iconst 0, 1) := dX8_isAsked_r0.2.2.2.2.2.2.1
theorem dX8_isAsked_11 : decode cX8_isAsked 11 = .ok (.if_icmp .lt 23, 3) := dX8_isAsked_r0.2.2.2.2.2.2.2.1
theorem dX8_isAsked_14 : decode cX8_isAsked 14 = .ok (.iload_n 2, 1) := dX8_isAsked_r0.2.2.2.2.2.2.2.2.1
theorem dX8_isAsked_15 : decode cX8_isAsked 15 = .ok (.iload_n 1, 1) := dX8_isAsked_r0.2.2.2.2.2.2.2.2.2.1
theorem dX8_isAsked_16 : decode cX8_isAsked 16 = .ok (.iconst 2, 1) := dX8_isAsked_r0.2.2.2.2.2.2.2.2.2.2.1
theorem dX8_isAsked_17 : decode cX8_isAsked 17 = .ok (.if_icmp .ne 8, 3) := dX8_isAsked_r0.2.2.2.2.2.2.2.2.2.2.2.1
theorem dX8_isAsked_20 : decode cX8_isAsked 20 = .ok (.bipush 99, 2) := dX8_isAsked_r0.2.2.2.2.2.2.2.2.2.2.2.2.1
theorem dX8_isAsked_22 : decode cX8_isAsked 22 = .ok (.goto 5, 3) := dX8_isAsked_r0.2.2.2.2.2.2.2.2.2.2.2.2.2.1
theorem dX8_isAsked_25 : decode cX8_isAsked 25 = .ok (.bipush 9, 2) := dX8_isAsked_r0.2.2.2.2.2.2.2.2.2.2.2.2.2.2.1
theorem dX8_isAsked_27 : decode cX8_isAsked 27 = .ok (.if_icmp .gt 7, 3) := dX8_isAsked_r0.2.2.2.2.2.2.2.2.2.2.2.2.2.2.2.1
theorem dX8_isAsked_r30 : zdcP cX8_isAsked 30 [(.iconst 1, 1), (.goto 4, 3), (.iconst 0, 1), (.ireturn, 1)] := zdcA_ok (by decide +kernel)
theorem dX8_isAsked_30 : decode cX8_isAsked 30 = .ok (.iconst 1, 1) := dX8_isAsked_r30.1
theorem dX8_isAsked_31 : decode cX8_isAsked 31 = .ok (.goto 4, 3) := dX8_isAsked_r30.2.1
theorem dX8_isAsked_34 : decode cX8_isAsked 34 = .ok (.iconst 0, 1) := dX8_isAsked_r30.2.2.1
theorem dX8_isAsked_35 : decode cX8_isAsked 35 = .ok (.ireturn, 1) := dX8_isAsked_r30.2.2.2.1
def wq_146_11 (v1 : Int32) (v2 : Int32) (u0 : Int32) (u1 : Int32) (m : zf_Me) (Q : Bool → zf_Me → Prop) : Prop := ((u1.toInt < u0.toInt → Q false m) ∧ (u1.toInt ≥ u0.toInt → ((¬ v1.toInt = 2 → ((v2.toInt > 9 → Q false m) ∧ (v2.toInt ≤ 9 → Q true m))) ∧ (v1.toInt = 2 → ((v2.toInt > 99 → Q false m) ∧ (v2.toInt ≤ 99 → Q true m))))))
theorem zq_146_11 {d : Nat} (hd : 0 ≤ d) {v1 : Int32} {v2 : Int32} {Q : Bool → zf_Me → Prop} {u0 : Int32} {u1 : Int32} {m : zf_Me} (h : wq_146_11 v1 v2 u0 u1 m Q) : zf_W none 0 0 d zt_146 11 [none, some (.inl v1), some (.inl v2)] [.inl u0, .inl u1] m (zf_B Q) := by
  unfold wq_146_11 at h
  refine zf_icmp_lt (tgt := 34) (pc' := 14) dX8_isAsked_11 rfl rfl (fun g => ?_) (fun g => ?_)
  · replace h := h.1 g
    refine zf_ic (v := 0) (pc' := 35) dX8_isAsked_34 rfl rfl ?_
    exact zf_rb (b := false) dX8_isAsked_35 rfl h
  · replace h := h.2 g
    refine zf_ld (pc' := 15) (v := .inl v2) dX8_isAsked_14 rfl (fun _ _ _ => rfl) rfl rfl rfl ?_
    refine zf_ld (pc' := 16) (v := .inl v1) dX8_isAsked_15 rfl (fun _ _ _ => rfl) rfl rfl rfl ?_
    refine zf_ic (v := 2) (pc' := 17) dX8_isAsked_16 rfl rfl ?_
    refine zf_icmp_ne (tgt := 25) (pc' := 20) dX8_isAsked_17 rfl rfl (fun g => ?_) (fun g => ?_)
    · replace h := h.1 g
      refine zf_bi (v := 9) (pc' := 27) dX8_isAsked_25 rfl rfl ?_
      refine zf_icmp_gt (tgt := 34) (pc' := 30) dX8_isAsked_27 rfl rfl (fun g => ?_) (fun g => ?_)
      · replace h := h.1 g
        refine zf_ic (v := 0) (pc' := 35) dX8_isAsked_34 rfl rfl ?_
        exact zf_rb (b := false) dX8_isAsked_35 rfl h
      · replace h := h.2 g
        refine zf_ic (v := 1) (pc' := 31) dX8_isAsked_30 rfl rfl ?_
        refine zf_goto (tgt := 35) dX8_isAsked_31 rfl ?_
        exact zf_rb (b := true) dX8_isAsked_35 rfl h
    · replace h := h.2 g
      refine zf_bi (v := 99) (pc' := 22) dX8_isAsked_20 rfl rfl ?_
      refine zf_goto (tgt := 27) dX8_isAsked_22 rfl ?_
      refine zf_icmp_gt (tgt := 34) (pc' := 30) dX8_isAsked_27 rfl rfl (fun g => ?_) (fun g => ?_)
      · replace h := h.1 g
        refine zf_ic (v := 0) (pc' := 35) dX8_isAsked_34 rfl rfl ?_
        exact zf_rb (b := false) dX8_isAsked_35 rfl h
      · replace h := h.2 g
        refine zf_ic (v := 1) (pc' := 31) dX8_isAsked_30 rfl rfl ?_
        refine zf_goto (tgt := 35) dX8_isAsked_31 rfl ?_
        exact zf_rb (b := true) dX8_isAsked_35 rfl h
def wp_146 (v1 : Int32) (v2 : Int32) (m : zf_Me) (Q : Bool → zf_Me → Prop) : Prop := ((v1.toInt ≥ 3 → wq_146_11 v1 v2 0 v2 m Q) ∧ (v1.toInt < 3 → wq_146_11 v1 v2 1 v2 m Q))
theorem zr_146 {d : Nat} (hd : 0 ≤ d) {v1 : Int32} {v2 : Int32} {Q : Bool → zf_Me → Prop} {m : zf_Me} (h : wp_146 v1 v2 m Q) : zf_M d 146 [.inr (.inr (1, 63)), .inl v1, .inl v2] m (zf_B Q) := by
  unfold wp_146 at h
  refine zf_M_of (Nat.le_of_ble_eq_true rfl) zm_146 (L := [some (.inr (.inr (1, 63))), some (.inl v1), some (.inl v2)]) rfl ?_
  refine zf_ld (pc' := 1) (v := .inl v2) dX8_isAsked_0 rfl (fun _ _ _ => rfl) rfl rfl rfl ?_
  refine zf_ld (pc' := 2) (v := .inl v1) dX8_isAsked_1 rfl (fun _ _ _ => rfl) rfl rfl rfl ?_
  refine zf_ic (v := 3) (pc' := 3) dX8_isAsked_2 rfl rfl ?_
  refine zf_icmp_ge (tgt := 10) (pc' := 6) dX8_isAsked_3 rfl rfl (fun g => ?_) (fun g => ?_)
  · replace h := h.1 g
    refine zf_ic (v := 0) (pc' := 11) dX8_isAsked_10 rfl rfl ?_
    exact zf_lo (zq_146_11 (by omega) h) ⟨rfl, rfl, trivial⟩
  · replace h := h.2 g
    refine zf_ic (v := 1) (pc' := 7) dX8_isAsked_6 rfl rfl ?_
    refine zf_goto (tgt := 11) dX8_isAsked_7 rfl ?_
    exact zf_lo (zq_146_11 (by omega) h) ⟨rfl, rfl, trivial⟩
def zt_147 : zx_MT := (8, yX8_told, cX8_told, 2, (some FieldType.int), 1, 0)
theorem zm_147 : zx_m 147 = zt_147 := rfl
theorem dX8_told_r0 : zdcP cX8_told 0 [(.iload_n 1, 1), (.ifCond .ne 10, 3), (.aload_n 0, 1), (.getfield 16, 3), (.goto 43, 3), (.iload_n 1, 1), (.iconst 1, 1), (.if_icmp .ne 10, 3), (.aload_n 0, 1), (.getfield 19, 3), (.goto 31, 3), (.iload_n 1, 1), (.iconst 2, 1), (.if_icmp .ne 10, 3), (.aload_n 0, 1), (.getfield 28, 3)] := zdcA_ok (by decide +kernel)
theorem dX8_told_0 : decode cX8_told 0 = .ok (.iload_n 1, 1) := dX8_told_r0.1
theorem dX8_told_1 : decode cX8_told 1 = .ok (.ifCond .ne 10, 3) := dX8_told_r0.2.1
theorem dX8_told_4 : decode cX8_told 4 = .ok (.aload_n 0, 1) := dX8_told_r0.2.2.1
theorem dX8_told_5 : decode cX8_told 5 = .ok (.getfield 16, 3) := dX8_told_r0.2.2.2.1
theorem dX8_told_8 : decode cX8_told 8 = .ok (.goto 43, 3) := dX8_told_r0.2.2.2.2.1
theorem dX8_told_11 : decode cX8_told 11 = .ok (.iload_n 1, 1) := dX8_told_r0.2.2.2.2.2.1
theorem dX8_told_12 : decode cX8_told 12 = .ok (.iconst 1, 1) := dX8_told_r0.2.2.2.2.2.2.1
theorem dX8_told_13 : decode cX8_told 13 = .ok (.if_icmp .ne 10, 3) := dX8_told_r0.2.2.2.2.2.2.2.1
theorem dX8_told_16 : decode cX8_told 16 = .ok (.aload_n 0, 1) := dX8_told_r0.2.2.2.2.2.2.2.2.1
theorem dX8_told_17 : decode cX8_told 17 = .ok (.getfield 19, 3) := dX8_told_r0.2.2.2.2.2.2.2.2.2.1
theorem dX8_told_20 : decode cX8_told 20 = .ok (.goto 31, 3) := dX8_told_r0.2.2.2.2.2.2.2.2.2.2.1
theorem dX8_told_23 : decode cX8_told 23 = .ok (.iload_n 1, 1) := dX8_told_r0.2.2.2.2.2.2.2.2.2.2.2.1
theorem dX8_told_24 : decode cX8_told 24 = .ok (.iconst 2, 1) := dX8_told_r0.2.2.2.2.2.2.2.2.2.2.2.2.1
theorem dX8_told_25 : decode cX8_told 25 = .ok (.if_icmp .ne 10, 3) := dX8_told_r0.2.2.2.2.2.2.2.2.2.2.2.2.2.1
theorem dX8_told_28 : decode cX8_told 28 = .ok (.aload_n 0, 1) := dX8_told_r0.2.2.2.2.2.2.2.2.2.2.2.2.2.2.1
theorem dX8_told_29 : decode cX8_told 29 = .ok (.getfield 28, 3) := dX8_told_r0.2.2.2.2.2.2.2.2.2.2.2.2.2.2.2.1
theorem dX8_told_r32 : zdcP cX8_told 32 [(.goto 19, 3), (.iload_n 1, 1), (.iconst 3, 1), (.if_icmp .ne 10, 3), (.aload_n 0, 1), (.getfield 22, 3), (.goto 7, 3), (.aload_n 0, 1), (.getfield 25, 3), (.ireturn, 1)] := zdcA_ok (by decide +kernel)
theorem dX8_told_32 : decode cX8_told 32 = .ok (.goto 19, 3) := dX8_told_r32.1
theorem dX8_told_35 : decode cX8_told 35 = .ok (.iload_n 1, 1) := dX8_told_r32.2.1
theorem dX8_told_36 : decode cX8_told 36 = .ok (.iconst 3, 1) := dX8_told_r32.2.2.1
theorem dX8_told_37 : decode cX8_told 37 = .ok (.if_icmp .ne 10, 3) := dX8_told_r32.2.2.2.1
theorem dX8_told_40 : decode cX8_told 40 = .ok (.aload_n 0, 1) := dX8_told_r32.2.2.2.2.1
theorem dX8_told_41 : decode cX8_told 41 = .ok (.getfield 22, 3) := dX8_told_r32.2.2.2.2.2.1
theorem dX8_told_44 : decode cX8_told 44 = .ok (.goto 7, 3) := dX8_told_r32.2.2.2.2.2.2.1
theorem dX8_told_47 : decode cX8_told 47 = .ok (.aload_n 0, 1) := dX8_told_r32.2.2.2.2.2.2.2.1
theorem dX8_told_48 : decode cX8_told 48 = .ok (.getfield 25, 3) := dX8_told_r32.2.2.2.2.2.2.2.2.1
theorem dX8_told_51 : decode cX8_told 51 = .ok (.ireturn, 1) := dX8_told_r32.2.2.2.2.2.2.2.2.2.1
def wp_147 (v1 : Int32) (m : zf_Me) (Q : Int32 → zf_Me → Prop) : Prop := ((¬ v1.toInt = 0 → ((¬ v1.toInt = 1 → ((¬ v1.toInt = 2 → ((¬ v1.toInt = 3 → Q (m.1 63 8) m) ∧ (v1.toInt = 3 → Q (m.1 63 7) m))) ∧ (v1.toInt = 2 → Q (m.1 63 9) m))) ∧ (v1.toInt = 1 → Q (m.1 63 5) m))) ∧ (v1.toInt = 0 → Q (m.1 63 4) m))
theorem zr_147 {d : Nat} (hd : 0 ≤ d) {v1 : Int32} {Q : Int32 → zf_Me → Prop} {m : zf_Me} (h : wp_147 v1 m Q) : zf_M d 147 [.inr (.inr (1, 63)), .inl v1] m (zf_I Q) := by
  unfold wp_147 at h
  refine zf_M_of (Nat.le_of_ble_eq_true rfl) zm_147 (L := [some (.inr (.inr (1, 63))), some (.inl v1)]) rfl ?_
  refine zf_ld (pc' := 1) (v := .inl v1) dX8_told_0 rfl (fun _ _ _ => rfl) rfl rfl rfl ?_
  refine zf_if_ne (tgt := 11) (pc' := 4) dX8_told_1 rfl rfl (fun g => ?_) (fun g => ?_)
  · replace h := h.1 g
    refine zf_ld (pc' := 12) (v := .inl v1) dX8_told_11 rfl (fun _ _ _ => rfl) rfl rfl rfl ?_
    refine zf_ic (v := 1) (pc' := 13) dX8_told_12 rfl rfl ?_
    refine zf_icmp_ne (tgt := 23) (pc' := 16) dX8_told_13 rfl rfl (fun g => ?_) (fun g => ?_)
    · replace h := h.1 g
      refine zf_ld (pc' := 24) (v := .inl v1) dX8_told_23 rfl (fun _ _ _ => rfl) rfl rfl rfl ?_
      refine zf_ic (v := 2) (pc' := 25) dX8_told_24 rfl rfl ?_
      refine zf_icmp_ne (tgt := 35) (pc' := 28) dX8_told_25 rfl rfl (fun g => ?_) (fun g => ?_)
      · replace h := h.1 g
        refine zf_ld (pc' := 36) (v := .inl v1) dX8_told_35 rfl (fun _ _ _ => rfl) rfl rfl rfl ?_
        refine zf_ic (v := 3) (pc' := 37) dX8_told_36 rfl rfl ?_
        refine zf_icmp_ne (tgt := 47) (pc' := 40) dX8_told_37 rfl rfl (fun g => ?_) (fun g => ?_)
        · replace h := h.1 g
          refine zf_ld (pc' := 48) (v := .inr (.inr (1, 63))) dX8_told_47 rfl (fun _ _ _ => rfl) rfl rfl rfl ?_
          refine zf_gfi (pc' := 51) dX8_told_48 rfl rfl (by decide) rfl rfl ?_
          exact zf_ri dX8_told_51 rfl h
        · replace h := h.2 g
          refine zf_ld (pc' := 41) (v := .inr (.inr (1, 63))) dX8_told_40 rfl (fun _ _ _ => rfl) rfl rfl rfl ?_
          refine zf_gfi (pc' := 44) dX8_told_41 rfl rfl (by decide) rfl rfl ?_
          refine zf_goto (tgt := 51) dX8_told_44 rfl ?_
          exact zf_ri dX8_told_51 rfl h
      · replace h := h.2 g
        refine zf_ld (pc' := 29) (v := .inr (.inr (1, 63))) dX8_told_28 rfl (fun _ _ _ => rfl) rfl rfl rfl ?_
        refine zf_gfi (pc' := 32) dX8_told_29 rfl rfl (by decide) rfl rfl ?_
        refine zf_goto (tgt := 51) dX8_told_32 rfl ?_
        exact zf_ri dX8_told_51 rfl h
    · replace h := h.2 g
      refine zf_ld (pc' := 17) (v := .inr (.inr (1, 63))) dX8_told_16 rfl (fun _ _ _ => rfl) rfl rfl rfl ?_
      refine zf_gfi (pc' := 20) dX8_told_17 rfl rfl (by decide) rfl rfl ?_
      refine zf_goto (tgt := 51) dX8_told_20 rfl ?_
      exact zf_ri dX8_told_51 rfl h
  · replace h := h.2 g
    refine zf_ld (pc' := 5) (v := .inr (.inr (1, 63))) dX8_told_4 rfl (fun _ _ _ => rfl) rfl rfl rfl ?_
    refine zf_gfi (pc' := 8) dX8_told_5 rfl rfl (by decide) rfl rfl ?_
    refine zf_goto (tgt := 51) dX8_told_8 rfl ?_
    exact zf_ri dX8_told_51 rfl h
def zt_148 : zx_MT := (8, yX8_tells, cX8_tells, 3, none, 2, 0)
theorem zm_148 : zx_m 148 = zt_148 := rfl
theorem dX8_tells_0 : decode cX8_tells 0 = .ok (.iload_n 1, 1) := zdc_ok (by decide +kernel)
theorem dX8_tells_1 : decode cX8_tells 1 = .ok (.tableswitch 63 0 3 #[31, 39, 47, 55], 31) := by decide +kernel
theorem dX8_tells_r32 : zdcP cX8_tells 32 [(.aload_n 0, 1), (.iload_n 2, 1), (.putfield 16, 3), (.goto 32, 3), (.aload_n 0, 1), (.iload_n 2, 1), (.putfield 19, 3), (.goto 24, 3), (.aload_n 0, 1), (.iload_n 2, 1), (.putfield 28, 3), (.goto 16, 3), (.aload_n 0, 1), (.iload_n 2, 1), (.putfield 22, 3), (.goto 8, 3)] := zdcA_ok (by decide +kernel)
theorem dX8_tells_32 : decode cX8_tells 32 = .ok (.aload_n 0, 1) := dX8_tells_r32.1
theorem dX8_tells_33 : decode cX8_tells 33 = .ok (.iload_n 2, 1) := dX8_tells_r32.2.1
theorem dX8_tells_34 : decode cX8_tells 34 = .ok (.putfield 16, 3) := dX8_tells_r32.2.2.1
theorem dX8_tells_37 : decode cX8_tells 37 = .ok (.goto 32, 3) := dX8_tells_r32.2.2.2.1
theorem dX8_tells_40 : decode cX8_tells 40 = .ok (.aload_n 0, 1) := dX8_tells_r32.2.2.2.2.1
theorem dX8_tells_41 : decode cX8_tells 41 = .ok (.iload_n 2, 1) := dX8_tells_r32.2.2.2.2.2.1
theorem dX8_tells_42 : decode cX8_tells 42 = .ok (.putfield 19, 3) := dX8_tells_r32.2.2.2.2.2.2.1
theorem dX8_tells_45 : decode cX8_tells 45 = .ok (.goto 24, 3) := dX8_tells_r32.2.2.2.2.2.2.2.1
theorem dX8_tells_48 : decode cX8_tells 48 = .ok (.aload_n 0, 1) := dX8_tells_r32.2.2.2.2.2.2.2.2.1
theorem dX8_tells_49 : decode cX8_tells 49 = .ok (.iload_n 2, 1) := dX8_tells_r32.2.2.2.2.2.2.2.2.2.1
theorem dX8_tells_50 : decode cX8_tells 50 = .ok (.putfield 28, 3) := dX8_tells_r32.2.2.2.2.2.2.2.2.2.2.1
theorem dX8_tells_53 : decode cX8_tells 53 = .ok (.goto 16, 3) := dX8_tells_r32.2.2.2.2.2.2.2.2.2.2.2.1
theorem dX8_tells_56 : decode cX8_tells 56 = .ok (.aload_n 0, 1) := dX8_tells_r32.2.2.2.2.2.2.2.2.2.2.2.2.1
theorem dX8_tells_57 : decode cX8_tells 57 = .ok (.iload_n 2, 1) := dX8_tells_r32.2.2.2.2.2.2.2.2.2.2.2.2.2.1
theorem dX8_tells_58 : decode cX8_tells 58 = .ok (.putfield 22, 3) := dX8_tells_r32.2.2.2.2.2.2.2.2.2.2.2.2.2.2.1
theorem dX8_tells_61 : decode cX8_tells 61 = .ok (.goto 8, 3) := dX8_tells_r32.2.2.2.2.2.2.2.2.2.2.2.2.2.2.2.1
theorem dX8_tells_r64 : zdcP cX8_tells 64 [(.aload_n 0, 1), (.iload_n 2, 1), (.putfield 25, 3), (.return_, 1)] := zdcA_ok (by decide +kernel)
theorem dX8_tells_64 : decode cX8_tells 64 = .ok (.aload_n 0, 1) := dX8_tells_r64.1
theorem dX8_tells_65 : decode cX8_tells 65 = .ok (.iload_n 2, 1) := dX8_tells_r64.2.1
theorem dX8_tells_66 : decode cX8_tells 66 = .ok (.putfield 25, 3) := dX8_tells_r64.2.2.1
theorem dX8_tells_69 : decode cX8_tells 69 = .ok (.return_, 1) := dX8_tells_r64.2.2.2.1
def wp_148 (v1 : Int32) (v2 : Int32) (m : zf_Me) (Q : zf_Me → Prop) : Prop := (((v1.toInt < 0 ∨ v1.toInt > 3) → (∀ m1, m1 = zf_u m 63 8 v2 → Q m1)) ∧ (v1.toInt = 0 → (∀ m3, m3 = zf_u m 63 4 v2 → Q m3)) ∧ (v1.toInt = 1 → (∀ m5, m5 = zf_u m 63 5 v2 → Q m5)) ∧ (v1.toInt = 2 → (∀ m7, m7 = zf_u m 63 9 v2 → Q m7)) ∧ (v1.toInt = 3 → (∀ m9, m9 = zf_u m 63 7 v2 → Q m9)))
theorem zr_148 {d : Nat} (hd : 0 ≤ d) {v1 : Int32} {v2 : Int32} {Q : zf_Me → Prop} {m : zf_Me} (h : wp_148 v1 v2 m Q) : zf_M d 148 [.inr (.inr (1, 63)), .inl v1, .inl v2] m (zf_O Q) := by
  unfold wp_148 at h
  refine zf_M_of (Nat.le_of_ble_eq_true rfl) zm_148 (L := [some (.inr (.inr (1, 63))), some (.inl v1), some (.inl v2)]) rfl ?_
  refine zf_ld (pc' := 1) (v := .inl v1) dX8_tells_0 rfl (fun _ _ _ => rfl) rfl rfl rfl ?_
  refine zf_tsc (tgd := 64) dX8_tells_1 rfl [32, 40, 48, 56] (by decide) (by decide) (fun g => ?_) (zl_cons (fun g => ?_) (zl_cons (fun g => ?_) (zl_cons (fun g => ?_) (zl_cons (fun g => ?_) (zl_nil)))))
  · replace h := h.1 (by omega)
    refine zf_ld (pc' := 65) (v := .inr (.inr (1, 63))) dX8_tells_64 rfl (fun _ _ _ => rfl) rfl rfl rfl ?_
    refine zf_ld (pc' := 66) (v := .inl v2) dX8_tells_65 rfl (fun _ _ _ => rfl) rfl rfl rfl ?_
    refine zf_pf (pc' := 69) dX8_tells_66 rfl rfl (by decide) rfl rfl rfl (fun m1 e2 => ?_)
    replace h := h m1 e2
    exact zf_rv dX8_tells_69 rfl h
  · replace h := h.2.1 (by omega)
    refine zf_ld (pc' := 33) (v := .inr (.inr (1, 63))) dX8_tells_32 rfl (fun _ _ _ => rfl) rfl rfl rfl ?_
    refine zf_ld (pc' := 34) (v := .inl v2) dX8_tells_33 rfl (fun _ _ _ => rfl) rfl rfl rfl ?_
    refine zf_pf (pc' := 37) dX8_tells_34 rfl rfl (by decide) rfl rfl rfl (fun m3 e4 => ?_)
    replace h := h m3 e4
    refine zf_goto (tgt := 69) dX8_tells_37 rfl ?_
    exact zf_rv dX8_tells_69 rfl h
  · replace h := h.2.2.1 (by omega)
    refine zf_ld (pc' := 41) (v := .inr (.inr (1, 63))) dX8_tells_40 rfl (fun _ _ _ => rfl) rfl rfl rfl ?_
    refine zf_ld (pc' := 42) (v := .inl v2) dX8_tells_41 rfl (fun _ _ _ => rfl) rfl rfl rfl ?_
    refine zf_pf (pc' := 45) dX8_tells_42 rfl rfl (by decide) rfl rfl rfl (fun m5 e6 => ?_)
    replace h := h m5 e6
    refine zf_goto (tgt := 69) dX8_tells_45 rfl ?_
    exact zf_rv dX8_tells_69 rfl h
  · replace h := h.2.2.2.1 (by omega)
    refine zf_ld (pc' := 49) (v := .inr (.inr (1, 63))) dX8_tells_48 rfl (fun _ _ _ => rfl) rfl rfl rfl ?_
    refine zf_ld (pc' := 50) (v := .inl v2) dX8_tells_49 rfl (fun _ _ _ => rfl) rfl rfl rfl ?_
    refine zf_pf (pc' := 53) dX8_tells_50 rfl rfl (by decide) rfl rfl rfl (fun m7 e8 => ?_)
    replace h := h m7 e8
    refine zf_goto (tgt := 69) dX8_tells_53 rfl ?_
    exact zf_rv dX8_tells_69 rfl h
  · replace h := h.2.2.2.2 (by omega)
    refine zf_ld (pc' := 57) (v := .inr (.inr (1, 63))) dX8_tells_56 rfl (fun _ _ _ => rfl) rfl rfl rfl ?_
    refine zf_ld (pc' := 58) (v := .inl v2) dX8_tells_57 rfl (fun _ _ _ => rfl) rfl rfl rfl ?_
    refine zf_pf (pc' := 61) dX8_tells_58 rfl rfl (by decide) rfl rfl rfl (fun m9 e10 => ?_)
    replace h := h m9 e10
    refine zf_goto (tgt := 69) dX8_tells_61 rfl ?_
    exact zf_rv dX8_tells_69 rfl h
def zt_149 : zx_MT := (8, yX8_asks, cX8_asks, 4, (some FieldType.int), 2, 0)
theorem zm_149 : zx_m 149 = zt_149 := rfl
theorem dX8_asks_r0 : zdcP cX8_asks 0 [(.aload_n 0, 1), (.iload_n 1, 1), (.invokevirtual 145, 3), (.istore_n 3, 1), (.aload_n 0, 1), (.iload_n 1, 1), (.iload_n 2, 1), (.invokevirtual 148, 3), (.iload_n 1, 1), (.ifCond .ne 16, 3), (.aload_n 0, 1), (.getfield 13, 3), (.iload_n 2, 1), (.if_icmp .le 8, 3), (.aload_n 0, 1), (.iload_n 2, 1)] := zdcA_ok (by decide +kernel)
theorem dX8_asks_0 : decode cX8_asks 0 = .ok (.aload_n 0, 1) := dX8_asks_r0.1
theorem dX8_asks_1 : decode cX8_asks 1 = .ok (.iload_n 1, 1) := dX8_asks_r0.2.1
theorem dX8_asks_2 : decode cX8_asks 2 = .ok (.invokevirtual 145, 3) := dX8_asks_r0.2.2.1
theorem dX8_asks_5 : decode cX8_asks 5 = .ok (.istore_n 3, 1) := dX8_asks_r0.2.2.2.1
theorem dX8_asks_6 : decode cX8_asks 6 = .ok (.aload_n 0, 1) := dX8_asks_r0.2.2.2.2.1
theorem dX8_asks_7 : decode cX8_asks 7 = .ok (.iload_n 1, 1) := dX8_asks_r0.2.2.2.2.2.1
theorem dX8_asks_8 : decode cX8_asks 8 = .ok (.iload_n 2, 1) := dX8_asks_r0.2.2.2.2.2.2.1
theorem dX8_asks_9 : decode cX8_asks 9 = .ok (.invokevirtual 148, 3) := dX8_asks_r0.2.2.2.2.2.2.2.1
theorem dX8_asks_12 : decode cX8_asks 12 = .ok (.iload_n 1, 1) := dX8_asks_r0.2.2.2.2.2.2.2.2.1
theorem dX8_asks_13 : decode cX8_asks 13 = .ok (.ifCond .ne 16, 3) := dX8_asks_r0.2.2.2.2.2.2.2.2.2.1
theorem dX8_asks_16 : decode cX8_asks 16 = .ok (.aload_n 0, 1) := dX8_asks_r0.2.2.2.2.2.2.2.2.2.2.1
theorem dX8_asks_17 : decode cX8_asks 17 = .ok (.getfield 13, 3) := dX8_asks_r0.2.2.2.2.2.2.2.2.2.2.2.1
theorem dX8_asks_20 : decode cX8_asks 20 = .ok (.iload_n 2, 1) := dX8_asks_r0.2.2.2.2.2.2.2.2.2.2.2.2.1
theorem dX8_asks_21 : decode cX8_asks 21 = .ok (.if_icmp .le 8, 3) := dX8_asks_r0.2.2.2.2.2.2.2.2.2.2.2.2.2.1
theorem dX8_asks_24 : decode cX8_asks 24 = .ok (.aload_n 0, 1) := dX8_asks_r0.2.2.2.2.2.2.2.2.2.2.2.2.2.2.1
theorem dX8_asks_25 : decode cX8_asks 25 = .ok (.iload_n 2, 1) := dX8_asks_r0.2.2.2.2.2.2.2.2.2.2.2.2.2.2.2.1
theorem dX8_asks_r26 : zdcP cX8_asks 26 [(.putfield 13, 3), (.iload_n 3, 1), (.ireturn, 1)] := zdcA_ok (by decide +kernel)
theorem dX8_asks_26 : decode cX8_asks 26 = .ok (.putfield 13, 3) := dX8_asks_r26.1
theorem dX8_asks_29 : decode cX8_asks 29 = .ok (.iload_n 3, 1) := dX8_asks_r26.2.1
theorem dX8_asks_30 : decode cX8_asks 30 = .ok (.ireturn, 1) := dX8_asks_r26.2.2.1
def wp_149 (v1 : Int32) (v2 : Int32) (m : zf_Me) (Q : Int32 → zf_Me → Prop) : Prop := wp_147 v1 m (fun x1 m2 => wp_148 v1 v2 m2 (fun m4 => ((¬ v1.toInt = 0 → Q x1 m4) ∧ (v1.toInt = 0 → ((((m4.1 63 3)).toInt ≤ v2.toInt → Q x1 m4) ∧ (((m4.1 63 3)).toInt > v2.toInt → (∀ m5, m5 = zf_u m4 63 3 v2 → Q x1 m5)))))))
theorem zr_149 {d : Nat} (hd : 1 ≤ d) {v1 : Int32} {v2 : Int32} {Q : Int32 → zf_Me → Prop} {m : zf_Me} (h : wp_149 v1 v2 m Q) : zf_M d 149 [.inr (.inr (1, 63)), .inl v1, .inl v2] m (zf_I Q) := by
  obtain ⟨e, rfl⟩ : ∃ z, d = z + 1 := ⟨d - 1, by omega⟩
  unfold wp_149 at h
  refine zf_M_of (Nat.le_of_ble_eq_true rfl) zm_149 (L := [some (.inr (.inr (1, 63))), some (.inl v1), some (.inl v2), none]) rfl ?_
  refine zf_ld (pc' := 1) (v := .inr (.inr (1, 63))) dX8_asks_0 rfl (fun _ _ _ => rfl) rfl rfl rfl ?_
  refine zf_ld (pc' := 2) (v := .inl v1) dX8_asks_1 rfl (fun _ _ _ => rfl) rfl rfl rfl ?_
  refine zf_iv (k := 147) (pc' := 5) (r := []) dX8_asks_2 rfl rfl rfl rfl (by decide) rfl rfl rfl (zr_147 (by omega) h) (zf_kI (fun x1 m2 h => ?_))
  refine zf_st (pc' := 6) (L2 := [some (.inr (.inr (1, 63))), some (.inl v1), some (.inl v2), some (.inl x1)]) dX8_asks_5 rfl (fun _ _ _ => rfl) rfl rfl rfl rfl rfl rfl ?_
  refine zf_ld (pc' := 7) (v := .inr (.inr (1, 63))) dX8_asks_6 rfl (fun _ _ _ => rfl) rfl rfl rfl ?_
  refine zf_ld (pc' := 8) (v := .inl v1) dX8_asks_7 rfl (fun _ _ _ => rfl) rfl rfl rfl ?_
  refine zf_ld (pc' := 9) (v := .inl v2) dX8_asks_8 rfl (fun _ _ _ => rfl) rfl rfl rfl ?_
  refine zf_iv (k := 148) (pc' := 12) (r := []) dX8_asks_9 rfl rfl rfl rfl (by decide) rfl rfl rfl (zr_148 (by omega) h) (zf_kO (fun m4 h => ?_))
  refine zf_ld (pc' := 13) (v := .inl v1) dX8_asks_12 rfl (fun _ _ _ => rfl) rfl rfl rfl ?_
  refine zf_if_ne (tgt := 29) (pc' := 16) dX8_asks_13 rfl rfl (fun g => ?_) (fun g => ?_)
  · replace h := h.1 g
    refine zf_ld (pc' := 30) (v := .inl x1) dX8_asks_29 rfl (fun _ _ _ => rfl) rfl rfl rfl ?_
    exact zf_ri dX8_asks_30 rfl h
  · replace h := h.2 g
    refine zf_ld (pc' := 17) (v := .inr (.inr (1, 63))) dX8_asks_16 rfl (fun _ _ _ => rfl) rfl rfl rfl ?_
    refine zf_gfi (pc' := 20) dX8_asks_17 rfl rfl (by decide) rfl rfl ?_
    refine zf_ld (pc' := 21) (v := .inl v2) dX8_asks_20 rfl (fun _ _ _ => rfl) rfl rfl rfl ?_
    refine zf_icmp_le (tgt := 29) (pc' := 24) dX8_asks_21 rfl rfl (fun g => ?_) (fun g => ?_)
    · replace h := h.1 g
      refine zf_ld (pc' := 30) (v := .inl x1) dX8_asks_29 rfl (fun _ _ _ => rfl) rfl rfl rfl ?_
      exact zf_ri dX8_asks_30 rfl h
    · replace h := h.2 g
      refine zf_ld (pc' := 25) (v := .inr (.inr (1, 63))) dX8_asks_24 rfl (fun _ _ _ => rfl) rfl rfl rfl ?_
      refine zf_ld (pc' := 26) (v := .inl v2) dX8_asks_25 rfl (fun _ _ _ => rfl) rfl rfl rfl ?_
      refine zf_pf (pc' := 29) dX8_asks_26 rfl rfl (by decide) rfl rfl rfl (fun m5 e6 => ?_)
      replace h := h m5 e6
      refine zf_ld (pc' := 30) (v := .inl x1) dX8_asks_29 rfl (fun _ _ _ => rfl) rfl rfl rfl ?_
      exact zf_ri dX8_asks_30 rfl h
def zt_150 : zx_MT := (8, yX8_ask, cX8_ask, 3, (some FieldType.int), 2, 0)
theorem zm_150 : zx_m 150 = zt_150 := rfl
theorem dX8_ask_r0 : zdcP cX8_ask 0 [(.iload_n 1, 1), (.ifCond .lt 26, 3), (.iload_n 1, 1), (.iconst 4, 1), (.if_icmp .gt 21, 3), (.aload_n 0, 1), (.iload_n 1, 1), (.iload_n 2, 1), (.invokevirtual 152, 3), (.ifCond .eq 12, 3), (.aload_n 0, 1), (.iload_n 1, 1), (.iload_n 2, 1), (.invokevirtual 156, 3), (.goto 9, 3), (.aload_n 0, 1)] := zdcA_ok (by decide +kernel)
theorem dX8_ask_0 : decode cX8_ask 0 = .ok (.iload_n 1, 1) := dX8_ask_r0.1
theorem dX8_ask_1 : decode cX8_ask 1 = .ok (.ifCond .lt 26, 3) := dX8_ask_r0.2.1
theorem dX8_ask_4 : decode cX8_ask 4 = .ok (.iload_n 1, 1) := dX8_ask_r0.2.2.1
theorem dX8_ask_5 : decode cX8_ask 5 = .ok (.iconst 4, 1) := dX8_ask_r0.2.2.2.1
theorem dX8_ask_6 : decode cX8_ask 6 = .ok (.if_icmp .gt 21, 3) := dX8_ask_r0.2.2.2.2.1
theorem dX8_ask_9 : decode cX8_ask 9 = .ok (.aload_n 0, 1) := dX8_ask_r0.2.2.2.2.2.1
theorem dX8_ask_10 : decode cX8_ask 10 = .ok (.iload_n 1, 1) := dX8_ask_r0.2.2.2.2.2.2.1
theorem dX8_ask_11 : decode cX8_ask 11 = .ok (.iload_n 2, 1) := dX8_ask_r0.2.2.2.2.2.2.2.1
theorem dX8_ask_12 : decode cX8_ask 12 = .ok (.invokevirtual 152, 3) := dX8_ask_r0.2.2.2.2.2.2.2.2.1
theorem dX8_ask_15 : decode cX8_ask 15 = .ok (.ifCond .eq 12, 3) := dX8_ask_r0.2.2.2.2.2.2.2.2.2.1
theorem dX8_ask_18 : decode cX8_ask 18 = .ok (.aload_n 0, 1) := dX8_ask_r0.2.2.2.2.2.2.2.2.2.2.1
theorem dX8_ask_19 : decode cX8_ask 19 = .ok (.iload_n 1, 1) := dX8_ask_r0.2.2.2.2.2.2.2.2.2.2.2.1
theorem dX8_ask_20 : decode cX8_ask 20 = .ok (.iload_n 2, 1) := dX8_ask_r0.2.2.2.2.2.2.2.2.2.2.2.2.1
theorem dX8_ask_21 : decode cX8_ask 21 = .ok (.invokevirtual 156, 3) := dX8_ask_r0.2.2.2.2.2.2.2.2.2.2.2.2.2.1
theorem dX8_ask_24 : decode cX8_ask 24 = .ok (.goto 9, 3) := dX8_ask_r0.2.2.2.2.2.2.2.2.2.2.2.2.2.2.1
theorem dX8_ask_27 : decode cX8_ask 27 = .ok (.aload_n 0, 1) := dX8_ask_r0.2.2.2.2.2.2.2.2.2.2.2.2.2.2.2.1
theorem dX8_ask_r28 : zdcP cX8_ask 28 [(.bipush (-6), 2), (.invokevirtual 115, 3), (.ireturn, 1)] := zdcA_ok (by decide +kernel)
theorem dX8_ask_28 : decode cX8_ask 28 = .ok (.bipush (-6), 2) := dX8_ask_r28.1
theorem dX8_ask_30 : decode cX8_ask 30 = .ok (.invokevirtual 115, 3) := dX8_ask_r28.2.1
theorem dX8_ask_33 : decode cX8_ask 33 = .ok (.ireturn, 1) := dX8_ask_r28.2.2.1
def wp_150 (v1 : Int32) (v2 : Int32) (m : zf_Me) (Q : Int32 → zf_Me → Prop) : Prop := ((v1.toInt < 0 → wp_125 (-6) m (fun x1 m2 => Q x1 m2)) ∧ (v1.toInt ≥ 0 → ((v1.toInt > 4 → wp_125 (-6) m (fun x3 m4 => Q x3 m4)) ∧ (v1.toInt ≤ 4 → wp_146 v1 v2 m (fun b5 m6 => ((b5 = false → wp_125 (-6) m6 (fun x7 m8 => Q x7 m8)) ∧ (b5 = true → wp_149 v1 v2 m6 (fun x9 m10 => Q x9 m10))))))))
theorem zr_150 {d : Nat} (hd : 2 ≤ d) {v1 : Int32} {v2 : Int32} {Q : Int32 → zf_Me → Prop} {m : zf_Me} (h : wp_150 v1 v2 m Q) : zf_M d 150 [.inr (.inr (1, 63)), .inl v1, .inl v2] m (zf_I Q) := by
  obtain ⟨e, rfl⟩ : ∃ z, d = z + 1 := ⟨d - 1, by omega⟩
  unfold wp_150 at h
  refine zf_M_of (Nat.le_of_ble_eq_true rfl) zm_150 (L := [some (.inr (.inr (1, 63))), some (.inl v1), some (.inl v2)]) rfl ?_
  refine zf_ld (pc' := 1) (v := .inl v1) dX8_ask_0 rfl (fun _ _ _ => rfl) rfl rfl rfl ?_
  refine zf_if_lt (tgt := 27) (pc' := 4) dX8_ask_1 rfl rfl (fun g => ?_) (fun g => ?_)
  · replace h := h.1 g
    refine zf_ld (pc' := 28) (v := .inr (.inr (1, 63))) dX8_ask_27 rfl (fun _ _ _ => rfl) rfl rfl rfl ?_
    refine zf_bi (v := (-6)) (pc' := 30) dX8_ask_28 rfl rfl ?_
    refine zf_iv (k := 125) (pc' := 33) (r := []) dX8_ask_30 rfl rfl rfl rfl (by decide) rfl rfl rfl (zr_125 (by omega) h) (zf_kI (fun x1 m2 h => ?_))
    exact zf_ri dX8_ask_33 rfl h
  · replace h := h.2 g
    refine zf_ld (pc' := 5) (v := .inl v1) dX8_ask_4 rfl (fun _ _ _ => rfl) rfl rfl rfl ?_
    refine zf_ic (v := 4) (pc' := 6) dX8_ask_5 rfl rfl ?_
    refine zf_icmp_gt (tgt := 27) (pc' := 9) dX8_ask_6 rfl rfl (fun g => ?_) (fun g => ?_)
    · replace h := h.1 g
      refine zf_ld (pc' := 28) (v := .inr (.inr (1, 63))) dX8_ask_27 rfl (fun _ _ _ => rfl) rfl rfl rfl ?_
      refine zf_bi (v := (-6)) (pc' := 30) dX8_ask_28 rfl rfl ?_
      refine zf_iv (k := 125) (pc' := 33) (r := []) dX8_ask_30 rfl rfl rfl rfl (by decide) rfl rfl rfl (zr_125 (by omega) h) (zf_kI (fun x3 m4 h => ?_))
      exact zf_ri dX8_ask_33 rfl h
    · replace h := h.2 g
      refine zf_ld (pc' := 10) (v := .inr (.inr (1, 63))) dX8_ask_9 rfl (fun _ _ _ => rfl) rfl rfl rfl ?_
      refine zf_ld (pc' := 11) (v := .inl v1) dX8_ask_10 rfl (fun _ _ _ => rfl) rfl rfl rfl ?_
      refine zf_ld (pc' := 12) (v := .inl v2) dX8_ask_11 rfl (fun _ _ _ => rfl) rfl rfl rfl ?_
      refine zf_iv (k := 146) (pc' := 15) (r := []) dX8_ask_12 rfl rfl rfl rfl (by decide) rfl rfl rfl (zr_146 (by omega) h) (zf_kB (fun b5 m6 h => ?_))
      refine zf_ib_eq (tgt := 27) (pc' := 18) dX8_ask_15 rfl rfl (fun g => ?_) (fun g => ?_)
      · replace h := h.1 g
        refine zf_ld (pc' := 28) (v := .inr (.inr (1, 63))) dX8_ask_27 rfl (fun _ _ _ => rfl) rfl rfl rfl ?_
        refine zf_bi (v := (-6)) (pc' := 30) dX8_ask_28 rfl rfl ?_
        refine zf_iv (k := 125) (pc' := 33) (r := []) dX8_ask_30 rfl rfl rfl rfl (by decide) rfl rfl rfl (zr_125 (by omega) h) (zf_kI (fun x7 m8 h => ?_))
        exact zf_ri dX8_ask_33 rfl h
      · replace h := h.2 g
        refine zf_ld (pc' := 19) (v := .inr (.inr (1, 63))) dX8_ask_18 rfl (fun _ _ _ => rfl) rfl rfl rfl ?_
        refine zf_ld (pc' := 20) (v := .inl v1) dX8_ask_19 rfl (fun _ _ _ => rfl) rfl rfl rfl ?_
        refine zf_ld (pc' := 21) (v := .inl v2) dX8_ask_20 rfl (fun _ _ _ => rfl) rfl rfl rfl ?_
        refine zf_iv (k := 149) (pc' := 24) (r := []) dX8_ask_21 rfl rfl rfl rfl (by decide) rfl rfl rfl (zr_149 (by omega) h) (zf_kI (fun x9 m10 h => ?_))
        refine zf_goto (tgt := 33) dX8_ask_24 rfl ?_
        exact zf_ri dX8_ask_33 rfl h
def zt_151 : zx_MT := (8, yX8_tire, cX8_tire, 4, (some FieldType.int), 2, 0)
theorem zm_151 : zx_m 151 = zt_151 := rfl
theorem dX8_tire_r0 : zdcP cX8_tire 0 [(.aload_n 0, 1), (.iload_n 1, 1), (.invokevirtual 119, 3), (.ifCond .ne 9, 3), (.aload_n 0, 1), (.iconst (-1), 1), (.invokevirtual 115, 3), (.ireturn, 1), (.iload_n 2, 1), (.ifCond .lt 9, 3), (.iload_n 2, 1), (.bipush 99, 2), (.if_icmp .le 10, 3), (.aload_n 0, 1), (.bipush (-6), 2), (.invokevirtual 115, 3)] := zdcA_ok (by decide +kernel)
theorem dX8_tire_0 : decode cX8_tire 0 = .ok (.aload_n 0, 1) := dX8_tire_r0.1
theorem dX8_tire_1 : decode cX8_tire 1 = .ok (.iload_n 1, 1) := dX8_tire_r0.2.1
theorem dX8_tire_2 : decode cX8_tire 2 = .ok (.invokevirtual 119, 3) := dX8_tire_r0.2.2.1
theorem dX8_tire_5 : decode cX8_tire 5 = .ok (.ifCond .ne 9, 3) := dX8_tire_r0.2.2.2.1
theorem dX8_tire_8 : decode cX8_tire 8 = .ok (.aload_n 0, 1) := dX8_tire_r0.2.2.2.2.1
theorem dX8_tire_9 : decode cX8_tire 9 = .ok (.iconst (-1), 1) := dX8_tire_r0.2.2.2.2.2.1
theorem dX8_tire_10 : decode cX8_tire 10 = .ok (.invokevirtual 115, 3) := dX8_tire_r0.2.2.2.2.2.2.1
theorem dX8_tire_13 : decode cX8_tire 13 = .ok (.ireturn, 1) := dX8_tire_r0.2.2.2.2.2.2.2.1
theorem dX8_tire_14 : decode cX8_tire 14 = .ok (.iload_n 2, 1) := dX8_tire_r0.2.2.2.2.2.2.2.2.1
theorem dX8_tire_15 : decode cX8_tire 15 = .ok (.ifCond .lt 9, 3) := dX8_tire_r0.2.2.2.2.2.2.2.2.2.1
theorem dX8_tire_18 : decode cX8_tire 18 = .ok (.iload_n 2, 1) := dX8_tire_r0.2.2.2.2.2.2.2.2.2.2.1
theorem dX8_tire_19 : decode cX8_tire 19 = .ok (.bipush 99, 2) := dX8_tire_r0.2.2.2.2.2.2.2.2.2.2.2.1
theorem dX8_tire_21 : decode cX8_tire 21 = .ok (.if_icmp .le 10, 3) := dX8_tire_r0.2.2.2.2.2.2.2.2.2.2.2.2.1
theorem dX8_tire_24 : decode cX8_tire 24 = .ok (.aload_n 0, 1) := dX8_tire_r0.2.2.2.2.2.2.2.2.2.2.2.2.2.1
theorem dX8_tire_25 : decode cX8_tire 25 = .ok (.bipush (-6), 2) := dX8_tire_r0.2.2.2.2.2.2.2.2.2.2.2.2.2.2.1
theorem dX8_tire_27 : decode cX8_tire 27 = .ok (.invokevirtual 115, 3) := dX8_tire_r0.2.2.2.2.2.2.2.2.2.2.2.2.2.2.2.1
theorem dX8_tire_r30 : zdcP cX8_tire 30 [(.ireturn, 1), (.aload_n 0, 1), (.getfield 53, 3), (.iload_n 1, 1), (.iaload, 1), (.istore_n 3, 1), (.aload_n 0, 1), (.getfield 53, 3), (.iload_n 1, 1), (.iload_n 2, 1), (.iastore, 1), (.iload_n 3, 1), (.ireturn, 1)] := zdcA_ok (by decide +kernel)
theorem dX8_tire_30 : decode cX8_tire 30 = .ok (.ireturn, 1) := dX8_tire_r30.1
theorem dX8_tire_31 : decode cX8_tire 31 = .ok (.aload_n 0, 1) := dX8_tire_r30.2.1
theorem dX8_tire_32 : decode cX8_tire 32 = .ok (.getfield 53, 3) := dX8_tire_r30.2.2.1
theorem dX8_tire_35 : decode cX8_tire 35 = .ok (.iload_n 1, 1) := dX8_tire_r30.2.2.2.1
theorem dX8_tire_36 : decode cX8_tire 36 = .ok (.iaload, 1) := dX8_tire_r30.2.2.2.2.1
theorem dX8_tire_37 : decode cX8_tire 37 = .ok (.istore_n 3, 1) := dX8_tire_r30.2.2.2.2.2.1
theorem dX8_tire_38 : decode cX8_tire 38 = .ok (.aload_n 0, 1) := dX8_tire_r30.2.2.2.2.2.2.1
theorem dX8_tire_39 : decode cX8_tire 39 = .ok (.getfield 53, 3) := dX8_tire_r30.2.2.2.2.2.2.2.1
theorem dX8_tire_42 : decode cX8_tire 42 = .ok (.iload_n 1, 1) := dX8_tire_r30.2.2.2.2.2.2.2.2.1
theorem dX8_tire_43 : decode cX8_tire 43 = .ok (.iload_n 2, 1) := dX8_tire_r30.2.2.2.2.2.2.2.2.2.1
theorem dX8_tire_44 : decode cX8_tire 44 = .ok (.iastore, 1) := dX8_tire_r30.2.2.2.2.2.2.2.2.2.2.1
theorem dX8_tire_45 : decode cX8_tire 45 = .ok (.iload_n 3, 1) := dX8_tire_r30.2.2.2.2.2.2.2.2.2.2.2.1
theorem dX8_tire_46 : decode cX8_tire 46 = .ok (.ireturn, 1) := dX8_tire_r30.2.2.2.2.2.2.2.2.2.2.2.2.1
def wp_151 (v1 : Int32) (v2 : Int32) (m : zf_Me) (Q : Int32 → zf_Me → Prop) : Prop := wp_128 v1 m (fun b1 m2 => ((b1 = true → ((v2.toInt < 0 → wp_125 (-6) m2 (fun x3 m4 => Q x3 m4)) ∧ (v2.toInt ≥ 0 → ((v2.toInt ≤ 99 → ((0 ≤ (Int32.toInt v1) ∧ (Int32.toInt v1) < (6 : Int)) ∧ ((0 ≤ (Int32.toInt v1) ∧ (Int32.toInt v1) < (6 : Int)) ∧ ∀ m5, m5 = zf_u m2 69 (Int32.toInt v1).toNat v2 → Q (m2.1 69 (Int32.toInt v1).toNat) m5))) ∧ (v2.toInt > 99 → wp_125 (-6) m2 (fun x7 m8 => Q x7 m8)))))) ∧ (b1 = false → wp_125 (-1) m2 (fun x9 m10 => Q x9 m10))))
theorem zr_151 {d : Nat} (hd : 1 ≤ d) {v1 : Int32} {v2 : Int32} {Q : Int32 → zf_Me → Prop} {m : zf_Me} (h : wp_151 v1 v2 m Q) : zf_M d 151 [.inr (.inr (1, 63)), .inl v1, .inl v2] m (zf_I Q) := by
  obtain ⟨e, rfl⟩ : ∃ z, d = z + 1 := ⟨d - 1, by omega⟩
  unfold wp_151 at h
  refine zf_M_of (Nat.le_of_ble_eq_true rfl) zm_151 (L := [some (.inr (.inr (1, 63))), some (.inl v1), some (.inl v2), none]) rfl ?_
  refine zf_ld (pc' := 1) (v := .inr (.inr (1, 63))) dX8_tire_0 rfl (fun _ _ _ => rfl) rfl rfl rfl ?_
  refine zf_ld (pc' := 2) (v := .inl v1) dX8_tire_1 rfl (fun _ _ _ => rfl) rfl rfl rfl ?_
  refine zf_iv (k := 128) (pc' := 5) (r := []) dX8_tire_2 rfl rfl rfl rfl (by decide) rfl rfl rfl (zr_128 (by omega) h) (zf_kB (fun b1 m2 h => ?_))
  refine zf_ib_ne (tgt := 14) (pc' := 8) dX8_tire_5 rfl rfl (fun g => ?_) (fun g => ?_)
  · replace h := h.1 g
    refine zf_ld (pc' := 15) (v := .inl v2) dX8_tire_14 rfl (fun _ _ _ => rfl) rfl rfl rfl ?_
    refine zf_if_lt (tgt := 24) (pc' := 18) dX8_tire_15 rfl rfl (fun g => ?_) (fun g => ?_)
    · replace h := h.1 g
      refine zf_ld (pc' := 25) (v := .inr (.inr (1, 63))) dX8_tire_24 rfl (fun _ _ _ => rfl) rfl rfl rfl ?_
      refine zf_bi (v := (-6)) (pc' := 27) dX8_tire_25 rfl rfl ?_
      refine zf_iv (k := 125) (pc' := 30) (r := []) dX8_tire_27 rfl rfl rfl rfl (by decide) rfl rfl rfl (zr_125 (by omega) h) (zf_kI (fun x3 m4 h => ?_))
      exact zf_ri dX8_tire_30 rfl h
    · replace h := h.2 g
      refine zf_ld (pc' := 19) (v := .inl v2) dX8_tire_18 rfl (fun _ _ _ => rfl) rfl rfl rfl ?_
      refine zf_bi (v := 99) (pc' := 21) dX8_tire_19 rfl rfl ?_
      refine zf_icmp_le (tgt := 31) (pc' := 24) dX8_tire_21 rfl rfl (fun g => ?_) (fun g => ?_)
      · replace h := h.1 g
        refine zf_ld (pc' := 32) (v := .inr (.inr (1, 63))) dX8_tire_31 rfl (fun _ _ _ => rfl) rfl rfl rfl ?_
        refine zf_gfr (pc' := 35) (b := 69) dX8_tire_32 rfl rfl (by decide) rfl rfl ?_
        refine zf_ld (pc' := 36) (v := .inl v1) dX8_tire_35 rfl (fun _ _ _ => rfl) rfl rfl rfl ?_
        refine zf_ial (pc' := 37) dX8_tire_36 rfl (⟨by decide, rfl⟩ : zf_arr 69 6).1 (⟨by decide, rfl⟩ : zf_arr 69 6).2 h.1 rfl ?_
        replace h := h.2
        refine zf_st (pc' := 38) (L2 := [some (.inr (.inr (1, 63))), some (.inl v1), some (.inl v2), some (.inl (m2.1 69 (Int32.toInt v1).toNat))]) dX8_tire_37 rfl (fun _ _ _ => rfl) rfl rfl rfl rfl rfl rfl ?_
        refine zf_ld (pc' := 39) (v := .inr (.inr (1, 63))) dX8_tire_38 rfl (fun _ _ _ => rfl) rfl rfl rfl ?_
        refine zf_gfr (pc' := 42) (b := 69) dX8_tire_39 rfl rfl (by decide) rfl rfl ?_
        refine zf_ld (pc' := 43) (v := .inl v1) dX8_tire_42 rfl (fun _ _ _ => rfl) rfl rfl rfl ?_
        refine zf_ld (pc' := 44) (v := .inl v2) dX8_tire_43 rfl (fun _ _ _ => rfl) rfl rfl rfl ?_
        refine zf_ias (pc' := 45) dX8_tire_44 rfl (⟨by decide, rfl⟩ : zf_arr 69 6).1 (⟨by decide, rfl⟩ : zf_arr 69 6).2 h.1 rfl (fun m5 e6 => ?_)
        replace h := h.2 m5 e6
        refine zf_ld (pc' := 46) (v := .inl (m2.1 69 (Int32.toInt v1).toNat)) dX8_tire_45 rfl (fun _ _ _ => rfl) rfl rfl rfl ?_
        exact zf_ri dX8_tire_46 rfl h
      · replace h := h.2 g
        refine zf_ld (pc' := 25) (v := .inr (.inr (1, 63))) dX8_tire_24 rfl (fun _ _ _ => rfl) rfl rfl rfl ?_
        refine zf_bi (v := (-6)) (pc' := 27) dX8_tire_25 rfl rfl ?_
        refine zf_iv (k := 125) (pc' := 30) (r := []) dX8_tire_27 rfl rfl rfl rfl (by decide) rfl rfl rfl (zr_125 (by omega) h) (zf_kI (fun x7 m8 h => ?_))
        exact zf_ri dX8_tire_30 rfl h
  · replace h := h.2 g
    refine zf_ld (pc' := 9) (v := .inr (.inr (1, 63))) dX8_tire_8 rfl (fun _ _ _ => rfl) rfl rfl rfl ?_
    refine zf_ic (v := (-1)) (pc' := 10) dX8_tire_9 rfl rfl ?_
    refine zf_iv (k := 125) (pc' := 13) (r := []) dX8_tire_10 rfl rfl rfl rfl (by decide) rfl rfl rfl (zr_125 (by omega) h) (zf_kI (fun x9 m10 h => ?_))
    exact zf_ri dX8_tire_13 rfl h
def zt_152 : zx_MT := (8, yX8_bag, cX8_bag, 3, (some FieldType.int), 1, 0)
theorem zm_152 : zx_m 152 = zt_152 := rfl
theorem dX8_bag_r0 : zdcP cX8_bag 0 [(.iload_n 1, 1), (.iconst (-1), 1), (.if_icmp .eq 17, 3), (.aload_n 0, 1), (.iload_n 1, 1), (.invokevirtual 119, 3), (.ifCond .ne 9, 3), (.aload_n 0, 1), (.iconst (-1), 1), (.invokevirtual 142, 3), (.ireturn, 1), (.aload_n 0, 1), (.getfield 9, 3), (.istore_n 2, 1), (.aload_n 0, 1), (.iload_n 1, 1)] := zdcA_ok (by decide +kernel)
theorem dX8_bag_0 : decode cX8_bag 0 = .ok (.iload_n 1, 1) := dX8_bag_r0.1
theorem dX8_bag_1 : decode cX8_bag 1 = .ok (.iconst (-1), 1) := dX8_bag_r0.2.1
theorem dX8_bag_2 : decode cX8_bag 2 = .ok (.if_icmp .eq 17, 3) := dX8_bag_r0.2.2.1
theorem dX8_bag_5 : decode cX8_bag 5 = .ok (.aload_n 0, 1) := dX8_bag_r0.2.2.2.1
theorem dX8_bag_6 : decode cX8_bag 6 = .ok (.iload_n 1, 1) := dX8_bag_r0.2.2.2.2.1
theorem dX8_bag_7 : decode cX8_bag 7 = .ok (.invokevirtual 119, 3) := dX8_bag_r0.2.2.2.2.2.1
theorem dX8_bag_10 : decode cX8_bag 10 = .ok (.ifCond .ne 9, 3) := dX8_bag_r0.2.2.2.2.2.2.1
theorem dX8_bag_13 : decode cX8_bag 13 = .ok (.aload_n 0, 1) := dX8_bag_r0.2.2.2.2.2.2.2.1
theorem dX8_bag_14 : decode cX8_bag 14 = .ok (.iconst (-1), 1) := dX8_bag_r0.2.2.2.2.2.2.2.2.1
theorem dX8_bag_15 : decode cX8_bag 15 = .ok (.invokevirtual 142, 3) := dX8_bag_r0.2.2.2.2.2.2.2.2.2.1
theorem dX8_bag_18 : decode cX8_bag 18 = .ok (.ireturn, 1) := dX8_bag_r0.2.2.2.2.2.2.2.2.2.2.1
theorem dX8_bag_19 : decode cX8_bag 19 = .ok (.aload_n 0, 1) := dX8_bag_r0.2.2.2.2.2.2.2.2.2.2.2.1
theorem dX8_bag_20 : decode cX8_bag 20 = .ok (.getfield 9, 3) := dX8_bag_r0.2.2.2.2.2.2.2.2.2.2.2.2.1
theorem dX8_bag_23 : decode cX8_bag 23 = .ok (.istore_n 2, 1) := dX8_bag_r0.2.2.2.2.2.2.2.2.2.2.2.2.2.1
theorem dX8_bag_24 : decode cX8_bag 24 = .ok (.aload_n 0, 1) := dX8_bag_r0.2.2.2.2.2.2.2.2.2.2.2.2.2.2.1
theorem dX8_bag_25 : decode cX8_bag 25 = .ok (.iload_n 1, 1) := dX8_bag_r0.2.2.2.2.2.2.2.2.2.2.2.2.2.2.2.1
theorem dX8_bag_r26 : zdcP cX8_bag 26 [(.putfield 9, 3), (.iload_n 2, 1), (.ireturn, 1)] := zdcA_ok (by decide +kernel)
theorem dX8_bag_26 : decode cX8_bag 26 = .ok (.putfield 9, 3) := dX8_bag_r26.1
theorem dX8_bag_29 : decode cX8_bag 29 = .ok (.iload_n 2, 1) := dX8_bag_r26.2.1
theorem dX8_bag_30 : decode cX8_bag 30 = .ok (.ireturn, 1) := dX8_bag_r26.2.2.1
def wq_152_19 (v1 : Int32) (m : zf_Me) (Q : Int32 → zf_Me → Prop) : Prop := (∀ m1, m1 = zf_u m 63 2 v1 → Q (m.1 63 2) m1)
theorem zq_152_19 {d : Nat} (hd : 1 ≤ d) {v1 : Int32} {Q : Int32 → zf_Me → Prop} {m : zf_Me} (h : wq_152_19 v1 m Q) : zf_W none 0 0 d zt_152 19 [some (.inr (.inr (1, 63))), some (.inl v1), none] [] m (zf_I Q) := by
  unfold wq_152_19 at h
  refine zf_ld (pc' := 20) (v := .inr (.inr (1, 63))) dX8_bag_19 rfl (fun _ _ _ => rfl) rfl rfl rfl ?_
  refine zf_gfi (pc' := 23) dX8_bag_20 rfl rfl (by decide) rfl rfl ?_
  refine zf_st (pc' := 24) (L2 := [some (.inr (.inr (1, 63))), some (.inl v1), some (.inl (m.1 63 2))]) dX8_bag_23 rfl (fun _ _ _ => rfl) rfl rfl rfl rfl rfl rfl ?_
  refine zf_ld (pc' := 25) (v := .inr (.inr (1, 63))) dX8_bag_24 rfl (fun _ _ _ => rfl) rfl rfl rfl ?_
  refine zf_ld (pc' := 26) (v := .inl v1) dX8_bag_25 rfl (fun _ _ _ => rfl) rfl rfl rfl ?_
  refine zf_pf (pc' := 29) dX8_bag_26 rfl rfl (by decide) rfl rfl rfl (fun m1 e2 => ?_)
  replace h := h m1 e2
  refine zf_ld (pc' := 30) (v := .inl (m.1 63 2)) dX8_bag_29 rfl (fun _ _ _ => rfl) rfl rfl rfl ?_
  exact zf_ri dX8_bag_30 rfl h
def wp_152 (v1 : Int32) (m : zf_Me) (Q : Int32 → zf_Me → Prop) : Prop := ((v1.toInt = (-1) → wq_152_19 v1 m Q) ∧ (¬ v1.toInt = (-1) → wp_128 v1 m (fun b3 m4 => ((b3 = true → wq_152_19 v1 m4 Q) ∧ (b3 = false → wp_126 (-1) m4 (fun x5 m6 => Q x5 m6))))))
theorem zr_152 {d : Nat} (hd : 1 ≤ d) {v1 : Int32} {Q : Int32 → zf_Me → Prop} {m : zf_Me} (h : wp_152 v1 m Q) : zf_M d 152 [.inr (.inr (1, 63)), .inl v1] m (zf_I Q) := by
  obtain ⟨e, rfl⟩ : ∃ z, d = z + 1 := ⟨d - 1, by omega⟩
  unfold wp_152 at h
  refine zf_M_of (Nat.le_of_ble_eq_true rfl) zm_152 (L := [some (.inr (.inr (1, 63))), some (.inl v1), none]) rfl ?_
  refine zf_ld (pc' := 1) (v := .inl v1) dX8_bag_0 rfl (fun _ _ _ => rfl) rfl rfl rfl ?_
  refine zf_ic (v := (-1)) (pc' := 2) dX8_bag_1 rfl rfl ?_
  refine zf_icmp_eq (tgt := 19) (pc' := 5) dX8_bag_2 rfl rfl (fun g => ?_) (fun g => ?_)
  · replace h := h.1 g
    exact zf_lo (zq_152_19 (by omega) h) ⟨rfl, rfl, trivial⟩
  · replace h := h.2 g
    refine zf_ld (pc' := 6) (v := .inr (.inr (1, 63))) dX8_bag_5 rfl (fun _ _ _ => rfl) rfl rfl rfl ?_
    refine zf_ld (pc' := 7) (v := .inl v1) dX8_bag_6 rfl (fun _ _ _ => rfl) rfl rfl rfl ?_
    refine zf_iv (k := 128) (pc' := 10) (r := []) dX8_bag_7 rfl rfl rfl rfl (by decide) rfl rfl rfl (zr_128 (by omega) h) (zf_kB (fun b3 m4 h => ?_))
    refine zf_ib_ne (tgt := 19) (pc' := 13) dX8_bag_10 rfl rfl (fun g => ?_) (fun g => ?_)
    · replace h := h.1 g
      exact zf_lo (zq_152_19 (by omega) h) ⟨rfl, rfl, trivial⟩
    · replace h := h.2 g
      refine zf_ld (pc' := 14) (v := .inr (.inr (1, 63))) dX8_bag_13 rfl (fun _ _ _ => rfl) rfl rfl rfl ?_
      refine zf_ic (v := (-1)) (pc' := 15) dX8_bag_14 rfl rfl ?_
      refine zf_iv (k := 126) (pc' := 18) (r := []) dX8_bag_15 rfl rfl rfl rfl (by decide) rfl rfl rfl (zr_126 (by omega) h) (zf_kI (fun x5 m6 h => ?_))
      exact zf_ri dX8_bag_18 rfl h
def zt_153 : zx_MT := (8, yX8_wrong, cX8_wrong, 2, (some FieldType.boolean), 1, 0)
theorem zm_153 : zx_m 153 = zt_153 := rfl
theorem dX8_wrong_r0 : zdcP cX8_wrong 0 [(.aload_n 0, 1), (.iload_n 1, 1), (.putfield 159, 3), (.iconst 0, 1), (.ireturn, 1)] := zdcA_ok (by decide +kernel)
theorem dX8_wrong_0 : decode cX8_wrong 0 = .ok (.aload_n 0, 1) := dX8_wrong_r0.1
theorem dX8_wrong_1 : decode cX8_wrong 1 = .ok (.iload_n 1, 1) := dX8_wrong_r0.2.1
theorem dX8_wrong_2 : decode cX8_wrong 2 = .ok (.putfield 159, 3) := dX8_wrong_r0.2.2.1
theorem dX8_wrong_5 : decode cX8_wrong 5 = .ok (.iconst 0, 1) := dX8_wrong_r0.2.2.2.1
theorem dX8_wrong_6 : decode cX8_wrong 6 = .ok (.ireturn, 1) := dX8_wrong_r0.2.2.2.2.1
def wp_153 (v1 : Int32) (m : zf_Me) (Q : Bool → zf_Me → Prop) : Prop := (∀ m1, m1 = zf_u m 63 33 v1 → Q false m1)
theorem zr_153 {d : Nat} (hd : 0 ≤ d) {v1 : Int32} {Q : Bool → zf_Me → Prop} {m : zf_Me} (h : wp_153 v1 m Q) : zf_M d 153 [.inr (.inr (1, 63)), .inl v1] m (zf_B Q) := by
  unfold wp_153 at h
  refine zf_M_of (Nat.le_of_ble_eq_true rfl) zm_153 (L := [some (.inr (.inr (1, 63))), some (.inl v1)]) rfl ?_
  refine zf_ld (pc' := 1) (v := .inr (.inr (1, 63))) dX8_wrong_0 rfl (fun _ _ _ => rfl) rfl rfl rfl ?_
  refine zf_ld (pc' := 2) (v := .inl v1) dX8_wrong_1 rfl (fun _ _ _ => rfl) rfl rfl rfl ?_
  refine zf_pf (pc' := 5) dX8_wrong_2 rfl rfl (by decide) rfl rfl rfl (fun m1 e2 => ?_)
  replace h := h m1 e2
  refine zf_ic (v := 0) (pc' := 6) dX8_wrong_5 rfl rfl ?_
  exact zf_rb (b := false) dX8_wrong_6 rfl h
def zt_154 : zx_MT := (8, yX8_stands, cX8_stands, 4, (some FieldType.boolean), 1, 0)
theorem zm_154 : zx_m 154 = zt_154 := rfl
theorem dX8_stands_r0 : zdcP cX8_stands 0 [(.iconst 0, 1), (.istore_n 2, 1), (.iconst 0, 1), (.istore_n 3, 1), (.iload_n 3, 1), (.iload_n 1, 1), (.if_icmp .ge 26, 3), (.iload_n 3, 1), (.aload_n 0, 1), (.getfield 75, 3), (.iload_n 2, 1), (.iaload, 1), (.ifCond .ne 7, 3), (.iconst 1, 1), (.goto 4, 3), (.iconst 0, 1)] := zdcA_ok (by decide +kernel)
theorem dX8_stands_0 : decode cX8_stands 0 = .ok (.iconst 0, 1) := dX8_stands_r0.1
theorem dX8_stands_1 : decode cX8_stands 1 = .ok (.istore_n 2, 1) := dX8_stands_r0.2.1
theorem dX8_stands_2 : decode cX8_stands 2 = .ok (.iconst 0, 1) := dX8_stands_r0.2.2.1
theorem dX8_stands_3 : decode cX8_stands 3 = .ok (.istore_n 3, 1) := dX8_stands_r0.2.2.2.1
theorem dX8_stands_4 : decode cX8_stands 4 = .ok (.iload_n 3, 1) := dX8_stands_r0.2.2.2.2.1
theorem dX8_stands_5 : decode cX8_stands 5 = .ok (.iload_n 1, 1) := dX8_stands_r0.2.2.2.2.2.1
theorem dX8_stands_6 : decode cX8_stands 6 = .ok (.if_icmp .ge 26, 3) := dX8_stands_r0.2.2.2.2.2.2.1
theorem dX8_stands_9 : decode cX8_stands 9 = .ok (.iload_n 3, 1) := dX8_stands_r0.2.2.2.2.2.2.2.1
theorem dX8_stands_10 : decode cX8_stands 10 = .ok (.aload_n 0, 1) := dX8_stands_r0.2.2.2.2.2.2.2.2.1
theorem dX8_stands_11 : decode cX8_stands 11 = .ok (.getfield 75, 3) := dX8_stands_r0.2.2.2.2.2.2.2.2.2.1
theorem dX8_stands_14 : decode cX8_stands 14 = .ok (.iload_n 2, 1) := dX8_stands_r0.2.2.2.2.2.2.2.2.2.2.1
theorem dX8_stands_15 : decode cX8_stands 15 = .ok (.iaload, 1) := dX8_stands_r0.2.2.2.2.2.2.2.2.2.2.2.1
theorem dX8_stands_16 : decode cX8_stands 16 = .ok (.ifCond .ne 7, 3) := dX8_stands_r0.2.2.2.2.2.2.2.2.2.2.2.2.1
theorem dX8_stands_19 : decode cX8_stands 19 = .ok (.iconst 1, 1) := dX8_stands_r0.2.2.2.2.2.2.2.2.2.2.2.2.2.1
theorem dX8_stands_20 : decode cX8_stands 20 = .ok (.goto 4, 3) := dX8_stands_r0.2.2.2.2.2.2.2.2.2.2.2.2.2.2.1
theorem dX8_stands_23 : decode cX8_stands 23 = .ok (.iconst 0, 1) := dX8_stands_r0.2.2.2.2.2.2.2.2.2.2.2.2.2.2.2.1
theorem dX8_stands_r24 : zdcP cX8_stands 24 [(.iadd, 1), (.istore_n 3, 1), (.iinc 2 1, 3), (.goto (-25), 3), (.aload_n 0, 1), (.getfield 162, 3), (.istore_n 3, 1), (.aload_n 0, 1), (.getfield 75, 3), (.iload_n 2, 1), (.iaload, 1), (.bipush 32, 2), (.if_icmp .le 41, 3), (.iload_n 3, 1), (.aload_n 0, 1), (.getfield 165, 3)] := zdcA_ok (by decide +kernel)
theorem dX8_stands_24 : decode cX8_stands 24 = .ok (.iadd, 1) := dX8_stands_r24.1
theorem dX8_stands_25 : decode cX8_stands 25 = .ok (.istore_n 3, 1) := dX8_stands_r24.2.1
theorem dX8_stands_26 : decode cX8_stands 26 = .ok (.iinc 2 1, 3) := dX8_stands_r24.2.2.1
theorem dX8_stands_29 : decode cX8_stands 29 = .ok (.goto (-25), 3) := dX8_stands_r24.2.2.2.1
theorem dX8_stands_32 : decode cX8_stands 32 = .ok (.aload_n 0, 1) := dX8_stands_r24.2.2.2.2.1
theorem dX8_stands_33 : decode cX8_stands 33 = .ok (.getfield 162, 3) := dX8_stands_r24.2.2.2.2.2.1
theorem dX8_stands_36 : decode cX8_stands 36 = .ok (.istore_n 3, 1) := dX8_stands_r24.2.2.2.2.2.2.1
theorem dX8_stands_37 : decode cX8_stands 37 = .ok (.aload_n 0, 1) := dX8_stands_r24.2.2.2.2.2.2.2.1
theorem dX8_stands_38 : decode cX8_stands 38 = .ok (.getfield 75, 3) := dX8_stands_r24.2.2.2.2.2.2.2.2.1
theorem dX8_stands_41 : decode cX8_stands 41 = .ok (.iload_n 2, 1) := dX8_stands_r24.2.2.2.2.2.2.2.2.2.1
theorem dX8_stands_42 : decode cX8_stands 42 = .ok (.iaload, 1) := dX8_stands_r24.2.2.2.2.2.2.2.2.2.2.1
theorem dX8_stands_43 : decode cX8_stands 43 = .ok (.bipush 32, 2) := dX8_stands_r24.2.2.2.2.2.2.2.2.2.2.2.1
theorem dX8_stands_45 : decode cX8_stands 45 = .ok (.if_icmp .le 41, 3) := dX8_stands_r24.2.2.2.2.2.2.2.2.2.2.2.2.1
theorem dX8_stands_48 : decode cX8_stands 48 = .ok (.iload_n 3, 1) := dX8_stands_r24.2.2.2.2.2.2.2.2.2.2.2.2.2.1
theorem dX8_stands_49 : decode cX8_stands 49 = .ok (.aload_n 0, 1) := dX8_stands_r24.2.2.2.2.2.2.2.2.2.2.2.2.2.2.1
theorem dX8_stands_50 : decode cX8_stands 50 = .ok (.getfield 165, 3) := dX8_stands_r24.2.2.2.2.2.2.2.2.2.2.2.2.2.2.2.1
theorem dX8_stands_r53 : zdcP cX8_stands 53 [(.if_icmp .ge 33, 3), (.aload_n 0, 1), (.getfield 68, 3), (.aload_n 0, 1), (.getfield 168, 3), (.iload_n 3, 1), (.iadd, 1), (.laload, 1), (.l2i, 1), (.aload_n 0, 1), (.getfield 75, 3), (.iload_n 2, 1), (.iaload, 1), (.if_icmp .ne 12, 3), (.iinc 3 1, 3), (.iinc 2 1, 3)] := zdcA_ok (by decide +kernel)
theorem dX8_stands_53 : decode cX8_stands 53 = .ok (.if_icmp .ge 33, 3) := dX8_stands_r53.1
theorem dX8_stands_56 : decode cX8_stands 56 = .ok (.aload_n 0, 1) := dX8_stands_r53.2.1
theorem dX8_stands_57 : decode cX8_stands 57 = .ok (.getfield 68, 3) := dX8_stands_r53.2.2.1
theorem dX8_stands_60 : decode cX8_stands 60 = .ok (.aload_n 0, 1) := dX8_stands_r53.2.2.2.1
theorem dX8_stands_61 : decode cX8_stands 61 = .ok (.getfield 168, 3) := dX8_stands_r53.2.2.2.2.1
theorem dX8_stands_64 : decode cX8_stands 64 = .ok (.iload_n 3, 1) := dX8_stands_r53.2.2.2.2.2.1
theorem dX8_stands_65 : decode cX8_stands 65 = .ok (.iadd, 1) := dX8_stands_r53.2.2.2.2.2.2.1
theorem dX8_stands_66 : decode cX8_stands 66 = .ok (.laload, 1) := dX8_stands_r53.2.2.2.2.2.2.2.1
theorem dX8_stands_67 : decode cX8_stands 67 = .ok (.l2i, 1) := dX8_stands_r53.2.2.2.2.2.2.2.2.1
theorem dX8_stands_68 : decode cX8_stands 68 = .ok (.aload_n 0, 1) := dX8_stands_r53.2.2.2.2.2.2.2.2.2.1
theorem dX8_stands_69 : decode cX8_stands 69 = .ok (.getfield 75, 3) := dX8_stands_r53.2.2.2.2.2.2.2.2.2.2.1
theorem dX8_stands_72 : decode cX8_stands 72 = .ok (.iload_n 2, 1) := dX8_stands_r53.2.2.2.2.2.2.2.2.2.2.2.1
theorem dX8_stands_73 : decode cX8_stands 73 = .ok (.iaload, 1) := dX8_stands_r53.2.2.2.2.2.2.2.2.2.2.2.2.1
theorem dX8_stands_74 : decode cX8_stands 74 = .ok (.if_icmp .ne 12, 3) := dX8_stands_r53.2.2.2.2.2.2.2.2.2.2.2.2.2.1
theorem dX8_stands_77 : decode cX8_stands 77 = .ok (.iinc 3 1, 3) := dX8_stands_r53.2.2.2.2.2.2.2.2.2.2.2.2.2.2.1
theorem dX8_stands_80 : decode cX8_stands 80 = .ok (.iinc 2 1, 3) := dX8_stands_r53.2.2.2.2.2.2.2.2.2.2.2.2.2.2.2.1
theorem dX8_stands_r83 : zdcP cX8_stands 83 [(.goto (-46), 3), (.aload_n 0, 1), (.getfield 75, 3), (.iload_n 2, 1), (.iaload, 1), (.bipush 32, 2), (.if_icmp .gt 7, 3), (.iconst 1, 1), (.goto 4, 3), (.iconst 0, 1), (.ireturn, 1)] := zdcA_ok (by decide +kernel)
theorem dX8_stands_83 : decode cX8_stands 83 = .ok (.goto (-46), 3) := dX8_stands_r83.1
theorem dX8_stands_86 : decode cX8_stands 86 = .ok (.aload_n 0, 1) := dX8_stands_r83.2.1
theorem dX8_stands_87 : decode cX8_stands 87 = .ok (.getfield 75, 3) := dX8_stands_r83.2.2.1
theorem dX8_stands_90 : decode cX8_stands 90 = .ok (.iload_n 2, 1) := dX8_stands_r83.2.2.2.1
theorem dX8_stands_91 : decode cX8_stands 91 = .ok (.iaload, 1) := dX8_stands_r83.2.2.2.2.1
theorem dX8_stands_92 : decode cX8_stands 92 = .ok (.bipush 32, 2) := dX8_stands_r83.2.2.2.2.2.1
theorem dX8_stands_94 : decode cX8_stands 94 = .ok (.if_icmp .gt 7, 3) := dX8_stands_r83.2.2.2.2.2.2.1
theorem dX8_stands_97 : decode cX8_stands 97 = .ok (.iconst 1, 1) := dX8_stands_r83.2.2.2.2.2.2.2.1
theorem dX8_stands_98 : decode cX8_stands 98 = .ok (.goto 4, 3) := dX8_stands_r83.2.2.2.2.2.2.2.2.1
theorem dX8_stands_101 : decode cX8_stands 101 = .ok (.iconst 0, 1) := dX8_stands_r83.2.2.2.2.2.2.2.2.2.1
theorem dX8_stands_102 : decode cX8_stands 102 = .ok (.ireturn, 1) := dX8_stands_r83.2.2.2.2.2.2.2.2.2.2.1
def wq_154_86 (v1 : Int32) (v2 : Int32) (m : zf_Me) (Q : Bool → zf_Me → Prop) : Prop := ((0 ≤ (Int32.toInt v2) ∧ (Int32.toInt v2) < (75 : Int)) ∧ ((((m.1 76 (Int32.toInt v2).toNat)).toInt > 32 → Q false m) ∧ (((m.1 76 (Int32.toInt v2).toNat)).toInt ≤ 32 → Q true m)))
theorem zq_154_86 {d : Nat} (hd : 0 ≤ d) {v1 : Int32} {Q : Bool → zf_Me → Prop} {v2 : Int32} {m : zf_Me} (h : wq_154_86 v1 v2 m Q) : zf_W none 0 0 d zt_154 86 [some (.inr (.inr (1, 63))), none, some (.inl v2), none] [] m (zf_B Q) := by
  unfold wq_154_86 at h
  refine zf_ld (pc' := 87) (v := .inr (.inr (1, 63))) dX8_stands_86 rfl (fun _ _ _ => rfl) rfl rfl rfl ?_
  refine zf_gfr (pc' := 90) (b := 76) dX8_stands_87 rfl rfl (by decide) rfl rfl ?_
  refine zf_ld (pc' := 91) (v := .inl v2) dX8_stands_90 rfl (fun _ _ _ => rfl) rfl rfl rfl ?_
  refine zf_ial (pc' := 92) dX8_stands_91 rfl (⟨by decide, rfl⟩ : zf_arr 76 75).1 (⟨by decide, rfl⟩ : zf_arr 76 75).2 h.1 rfl ?_
  replace h := h.2
  refine zf_bi (v := 32) (pc' := 94) dX8_stands_92 rfl rfl ?_
  refine zf_icmp_gt (tgt := 101) (pc' := 97) dX8_stands_94 rfl rfl (fun g => ?_) (fun g => ?_)
  · replace h := h.1 g
    refine zf_ic (v := 0) (pc' := 102) dX8_stands_101 rfl rfl ?_
    exact zf_rb (b := false) dX8_stands_102 rfl h
  · replace h := h.2 g
    refine zf_ic (v := 1) (pc' := 98) dX8_stands_97 rfl rfl ?_
    refine zf_goto (tgt := 102) dX8_stands_98 rfl ?_
    exact zf_rb (b := true) dX8_stands_102 rfl h
def wq_154_37 (v1 : Int32) (Q : Bool → zf_Me → Prop) : Nat → Int32 → Int32 → zf_Me → Prop
  | 0, _, _, _ => False
  | n + 1, v2, v3, m => ((0 ≤ (Int32.toInt v2) ∧ (Int32.toInt v2) < (75 : Int)) ∧ ((((m.1 76 (Int32.toInt v2).toNat)).toInt ≤ 32 → wq_154_86 v1 v2 m Q) ∧ (((m.1 76 (Int32.toInt v2).toNat)).toInt > 32 → ((v3.toInt ≥ ((m.1 63 31)).toInt → wq_154_86 v1 v2 m Q) ∧ (v3.toInt < ((m.1 63 31)).toInt → ((0 ≤ (Int32.toInt ((m.1 63 29) + v3)) ∧ (Int32.toInt ((m.1 63 29) + v3)) < (1280 : Int)) ∧ ((0 ≤ (Int32.toInt v2) ∧ (Int32.toInt v2) < (75 : Int)) ∧ ((¬ ((Int64.toInt32 (m.2 74 (Int32.toInt ((m.1 63 29) + v3)).toNat))).toInt = ((m.1 76 (Int32.toInt v2).toNat)).toInt → wq_154_86 v1 v2 m Q) ∧ (((Int64.toInt32 (m.2 74 (Int32.toInt ((m.1 63 29) + v3)).toNat))).toInt = ((m.1 76 (Int32.toInt v2).toNat)).toInt → wq_154_37 v1 Q n (v2 + 1) (v3 + 1) m)))))))))
theorem zq_154_37 {d : Nat} (hd : 0 ≤ d) {v1 : Int32} {Q : Bool → zf_Me → Prop} : ∀ (n : Nat) (v2 : Int32) (v3 : Int32) (m : zf_Me), wq_154_37 v1 Q n v2 v3 m → zf_W none 0 0 d zt_154 37 [some (.inr (.inr (1, 63))), none, some (.inl v2), some (.inl v3)] [] m (zf_B Q) := by
  intro n
  induction n with
  | zero =>
    intro v2 v3 m h
    exact h.elim
  | succ n ih =>
    intro v2 v3 m h
    unfold wq_154_37 at h
    refine zf_ld (pc' := 38) (v := .inr (.inr (1, 63))) dX8_stands_37 rfl (fun _ _ _ => rfl) rfl rfl rfl ?_
    refine zf_gfr (pc' := 41) (b := 76) dX8_stands_38 rfl rfl (by decide) rfl rfl ?_
    refine zf_ld (pc' := 42) (v := .inl v2) dX8_stands_41 rfl (fun _ _ _ => rfl) rfl rfl rfl ?_
    refine zf_ial (pc' := 43) dX8_stands_42 rfl (⟨by decide, rfl⟩ : zf_arr 76 75).1 (⟨by decide, rfl⟩ : zf_arr 76 75).2 h.1 rfl ?_
    replace h := h.2
    refine zf_bi (v := 32) (pc' := 45) dX8_stands_43 rfl rfl ?_
    refine zf_icmp_le (tgt := 86) (pc' := 48) dX8_stands_45 rfl rfl (fun g => ?_) (fun g => ?_)
    · replace h := h.1 g
      exact zf_lo (zq_154_86 (by omega) h) ⟨rfl, rfl, trivial⟩
    · replace h := h.2 g
      refine zf_ld (pc' := 49) (v := .inl v3) dX8_stands_48 rfl (fun _ _ _ => rfl) rfl rfl rfl ?_
      refine zf_ld (pc' := 50) (v := .inr (.inr (1, 63))) dX8_stands_49 rfl (fun _ _ _ => rfl) rfl rfl rfl ?_
      refine zf_gfi (pc' := 53) dX8_stands_50 rfl rfl (by decide) rfl rfl ?_
      refine zf_icmp_ge (tgt := 86) (pc' := 56) dX8_stands_53 rfl rfl (fun g => ?_) (fun g => ?_)
      · replace h := h.1 g
        exact zf_lo (zq_154_86 (by omega) h) ⟨rfl, rfl, trivial⟩
      · replace h := h.2 g
        refine zf_ld (pc' := 57) (v := .inr (.inr (1, 63))) dX8_stands_56 rfl (fun _ _ _ => rfl) rfl rfl rfl ?_
        refine zf_gfr (pc' := 60) (b := 74) dX8_stands_57 rfl rfl (by decide) rfl rfl ?_
        refine zf_ld (pc' := 61) (v := .inr (.inr (1, 63))) dX8_stands_60 rfl (fun _ _ _ => rfl) rfl rfl rfl ?_
        refine zf_gfi (pc' := 64) dX8_stands_61 rfl rfl (by decide) rfl rfl ?_
        refine zf_ld (pc' := 65) (v := .inl v3) dX8_stands_64 rfl (fun _ _ _ => rfl) rfl rfl rfl ?_
        refine zf_in (pc' := 66) (S' := [.inl ((m.1 63 29) + v3), .inr (.inr (1, 74))]) dX8_stands_65 rfl (fun _ _ _ => rfl) ?_
        refine zf_lal (pc' := 67) dX8_stands_66 rfl (⟨by decide, rfl⟩ : zf_larr 74 1280).1 (⟨by decide, rfl⟩ : zf_larr 74 1280).2 h.1 rfl ?_
        replace h := h.2
        refine zf_in (pc' := 68) (S' := [.inl (Int64.toInt32 (m.2 74 (Int32.toInt ((m.1 63 29) + v3)).toNat))]) dX8_stands_67 rfl (fun _ _ _ => rfl) ?_
        refine zf_ld (pc' := 69) (v := .inr (.inr (1, 63))) dX8_stands_68 rfl (fun _ _ _ => rfl) rfl rfl rfl ?_
        refine zf_gfr (pc' := 72) (b := 76) dX8_stands_69 rfl rfl (by decide) rfl rfl ?_
        refine zf_ld (pc' := 73) (v := .inl v2) dX8_stands_72 rfl (fun _ _ _ => rfl) rfl rfl rfl ?_
        refine zf_ial (pc' := 74) dX8_stands_73 rfl (⟨by decide, rfl⟩ : zf_arr 76 75).1 (⟨by decide, rfl⟩ : zf_arr 76 75).2 h.1 rfl ?_
        replace h := h.2
        refine zf_icmp_ne (tgt := 86) (pc' := 77) dX8_stands_74 rfl rfl (fun g => ?_) (fun g => ?_)
        · replace h := h.1 g
          exact zf_lo (zq_154_86 (by omega) h) ⟨rfl, rfl, trivial⟩
        · replace h := h.2 g
          refine zf_ii (y := (v3 + 1)) (L2 := [some (.inr (.inr (1, 63))), none, some (.inl v2), some (.inl (v3 + 1))]) (pc' := 80) dX8_stands_77 rfl rfl rfl rfl rfl ?_
          refine zf_ii (y := (v2 + 1)) (L2 := [some (.inr (.inr (1, 63))), none, some (.inl (v2 + 1)), some (.inl (v3 + 1))]) (pc' := 83) dX8_stands_80 rfl rfl rfl rfl rfl ?_
          refine zf_goto (tgt := 37) dX8_stands_83 rfl ?_
          exact zf_lo (ih _ _ _ h) ⟨rfl, rfl, rfl, trivial⟩
def wq_154_4 (v1 : Int32) (Q : Bool → zf_Me → Prop) : Nat → Int32 → Int32 → zf_Me → Prop
  | 0, _, _, _ => False
  | n + 1, v2, v3, m => ((v3.toInt ≥ v1.toInt → (∃ n37, wq_154_37 v1 Q n37 v2 (m.1 63 30) m)) ∧ (v3.toInt < v1.toInt → ((0 ≤ (Int32.toInt v2) ∧ (Int32.toInt v2) < (75 : Int)) ∧ ((¬ ((m.1 76 (Int32.toInt v2).toNat)).toInt = 0 → wq_154_4 v1 Q n (v2 + 1) (v3 + 0) m) ∧ (((m.1 76 (Int32.toInt v2).toNat)).toInt = 0 → wq_154_4 v1 Q n (v2 + 1) (v3 + 1) m)))))
theorem zq_154_4 {d : Nat} (hd : 0 ≤ d) {v1 : Int32} {Q : Bool → zf_Me → Prop} : ∀ (n : Nat) (v2 : Int32) (v3 : Int32) (m : zf_Me), wq_154_4 v1 Q n v2 v3 m → zf_W none 0 0 d zt_154 4 [some (.inr (.inr (1, 63))), some (.inl v1), some (.inl v2), some (.inl v3)] [] m (zf_B Q) := by
  intro n
  induction n with
  | zero =>
    intro v2 v3 m h
    exact h.elim
  | succ n ih =>
    intro v2 v3 m h
    unfold wq_154_4 at h
    refine zf_ld (pc' := 5) (v := .inl v3) dX8_stands_4 rfl (fun _ _ _ => rfl) rfl rfl rfl ?_
    refine zf_ld (pc' := 6) (v := .inl v1) dX8_stands_5 rfl (fun _ _ _ => rfl) rfl rfl rfl ?_
    refine zf_icmp_ge (tgt := 32) (pc' := 9) dX8_stands_6 rfl rfl (fun g => ?_) (fun g => ?_)
    · replace h := h.1 g
      refine zf_ld (pc' := 33) (v := .inr (.inr (1, 63))) dX8_stands_32 rfl (fun _ _ _ => rfl) rfl rfl rfl ?_
      refine zf_gfi (pc' := 36) dX8_stands_33 rfl rfl (by decide) rfl rfl ?_
      refine zf_st (pc' := 37) (L2 := [some (.inr (.inr (1, 63))), some (.inl v1), some (.inl v2), some (.inl (m.1 63 30))]) dX8_stands_36 rfl (fun _ _ _ => rfl) rfl rfl rfl rfl rfl rfl ?_
      obtain ⟨n37, h⟩ := h
      exact zf_lo (zq_154_37 (by omega) n37 _ _ _ h) ⟨rfl, rfl, rfl, trivial⟩
    · replace h := h.2 g
      refine zf_ld (pc' := 10) (v := .inl v3) dX8_stands_9 rfl (fun _ _ _ => rfl) rfl rfl rfl ?_
      refine zf_ld (pc' := 11) (v := .inr (.inr (1, 63))) dX8_stands_10 rfl (fun _ _ _ => rfl) rfl rfl rfl ?_
      refine zf_gfr (pc' := 14) (b := 76) dX8_stands_11 rfl rfl (by decide) rfl rfl ?_
      refine zf_ld (pc' := 15) (v := .inl v2) dX8_stands_14 rfl (fun _ _ _ => rfl) rfl rfl rfl ?_
      refine zf_ial (pc' := 16) dX8_stands_15 rfl (⟨by decide, rfl⟩ : zf_arr 76 75).1 (⟨by decide, rfl⟩ : zf_arr 76 75).2 h.1 rfl ?_
      replace h := h.2
      refine zf_if_ne (tgt := 23) (pc' := 19) dX8_stands_16 rfl rfl (fun g => ?_) (fun g => ?_)
      · replace h := h.1 g
        refine zf_ic (v := 0) (pc' := 24) dX8_stands_23 rfl rfl ?_
        refine zf_in (pc' := 25) (S' := [.inl (v3 + 0)]) dX8_stands_24 rfl (fun _ _ _ => rfl) ?_
        refine zf_st (pc' := 26) (L2 := [some (.inr (.inr (1, 63))), some (.inl v1), some (.inl v2), some (.inl (v3 + 0))]) dX8_stands_25 rfl (fun _ _ _ => rfl) rfl rfl rfl rfl rfl rfl ?_
        refine zf_ii (y := (v2 + 1)) (L2 := [some (.inr (.inr (1, 63))), some (.inl v1), some (.inl (v2 + 1)), some (.inl (v3 + 0))]) (pc' := 29) dX8_stands_26 rfl rfl rfl rfl rfl ?_
        refine zf_goto (tgt := 4) dX8_stands_29 rfl ?_
        exact zf_lo (ih _ _ _ h) ⟨rfl, rfl, rfl, rfl, trivial⟩
      · replace h := h.2 g
        refine zf_ic (v := 1) (pc' := 20) dX8_stands_19 rfl rfl ?_
        refine zf_goto (tgt := 24) dX8_stands_20 rfl ?_
        refine zf_in (pc' := 25) (S' := [.inl (v3 + 1)]) dX8_stands_24 rfl (fun _ _ _ => rfl) ?_
        refine zf_st (pc' := 26) (L2 := [some (.inr (.inr (1, 63))), some (.inl v1), some (.inl v2), some (.inl (v3 + 1))]) dX8_stands_25 rfl (fun _ _ _ => rfl) rfl rfl rfl rfl rfl rfl ?_
        refine zf_ii (y := (v2 + 1)) (L2 := [some (.inr (.inr (1, 63))), some (.inl v1), some (.inl (v2 + 1)), some (.inl (v3 + 1))]) (pc' := 29) dX8_stands_26 rfl rfl rfl rfl rfl ?_
        refine zf_goto (tgt := 4) dX8_stands_29 rfl ?_
        exact zf_lo (ih _ _ _ h) ⟨rfl, rfl, rfl, rfl, trivial⟩
def wp_154 (v1 : Int32) (m : zf_Me) (Q : Bool → zf_Me → Prop) : Prop := (∃ n4, wq_154_4 v1 Q n4 0 0 m)
theorem zr_154 {d : Nat} (hd : 0 ≤ d) {v1 : Int32} {Q : Bool → zf_Me → Prop} {m : zf_Me} (h : wp_154 v1 m Q) : zf_M d 154 [.inr (.inr (1, 63)), .inl v1] m (zf_B Q) := by
  unfold wp_154 at h
  refine zf_M_of (Nat.le_of_ble_eq_true rfl) zm_154 (L := [some (.inr (.inr (1, 63))), some (.inl v1), none, none]) rfl ?_
  refine zf_ic (v := 0) (pc' := 1) dX8_stands_0 rfl rfl ?_
  refine zf_st (pc' := 2) (L2 := [some (.inr (.inr (1, 63))), some (.inl v1), some (.inl 0), none]) dX8_stands_1 rfl (fun _ _ _ => rfl) rfl rfl rfl rfl rfl rfl ?_
  refine zf_ic (v := 0) (pc' := 3) dX8_stands_2 rfl rfl ?_
  refine zf_st (pc' := 4) (L2 := [some (.inr (.inr (1, 63))), some (.inl v1), some (.inl 0), some (.inl 0)]) dX8_stands_3 rfl (fun _ _ _ => rfl) rfl rfl rfl rfl rfl rfl ?_
  obtain ⟨n4, h⟩ := h
  exact zf_lo (zq_154_4 (by omega) n4 _ _ _ h) ⟨rfl, rfl, rfl, rfl, trivial⟩
def zt_155 : zx_MT := (8, yX8_word, cX8_word, 6, (some FieldType.int), 0, 0)
theorem zm_155 : zx_m 155 = zt_155 := rfl
theorem dX8_word_r0 : zdcP cX8_word 0 [(.iconst 0, 1), (.istore_n 1, 1), (.aload_n 0, 1), (.getfield 162, 3), (.istore_n 2, 1), (.iconst 0, 1), (.istore_n 3, 1), (.iload_n 3, 1), (.bipush 12, 2), (.if_icmp .ge 118, 3), (.aload_n 0, 1), (.getfield 162, 3), (.istore 4, 2), (.iload_n 1, 1), (.istore 5, 2), (.aload_n 0, 1)] := zdcA_ok (by decide +kernel)
theorem dX8_word_0 : decode cX8_word 0 = .ok (.iconst 0, 1) := dX8_word_r0.1
theorem dX8_word_1 : decode cX8_word 1 = .ok (.istore_n 1, 1) := dX8_word_r0.2.1
theorem dX8_word_2 : decode cX8_word 2 = .ok (.aload_n 0, 1) := dX8_word_r0.2.2.1
theorem dX8_word_3 : decode cX8_word 3 = .ok (.getfield 162, 3) := dX8_word_r0.2.2.2.1
theorem dX8_word_6 : decode cX8_word 6 = .ok (.istore_n 2, 1) := dX8_word_r0.2.2.2.2.1
theorem dX8_word_7 : decode cX8_word 7 = .ok (.iconst 0, 1) := dX8_word_r0.2.2.2.2.2.1
theorem dX8_word_8 : decode cX8_word 8 = .ok (.istore_n 3, 1) := dX8_word_r0.2.2.2.2.2.2.1
theorem dX8_word_9 : decode cX8_word 9 = .ok (.iload_n 3, 1) := dX8_word_r0.2.2.2.2.2.2.2.1
theorem dX8_word_10 : decode cX8_word 10 = .ok (.bipush 12, 2) := dX8_word_r0.2.2.2.2.2.2.2.2.1
theorem dX8_word_12 : decode cX8_word 12 = .ok (.if_icmp .ge 118, 3) := dX8_word_r0.2.2.2.2.2.2.2.2.2.1
theorem dX8_word_15 : decode cX8_word 15 = .ok (.aload_n 0, 1) := dX8_word_r0.2.2.2.2.2.2.2.2.2.2.1
theorem dX8_word_16 : decode cX8_word 16 = .ok (.getfield 162, 3) := dX8_word_r0.2.2.2.2.2.2.2.2.2.2.2.1
theorem dX8_word_19 : decode cX8_word 19 = .ok (.istore 4, 2) := dX8_word_r0.2.2.2.2.2.2.2.2.2.2.2.2.1
theorem dX8_word_21 : decode cX8_word 21 = .ok (.iload_n 1, 1) := dX8_word_r0.2.2.2.2.2.2.2.2.2.2.2.2.2.1
theorem dX8_word_22 : decode cX8_word 22 = .ok (.istore 5, 2) := dX8_word_r0.2.2.2.2.2.2.2.2.2.2.2.2.2.2.1
theorem dX8_word_24 : decode cX8_word 24 = .ok (.aload_n 0, 1) := dX8_word_r0.2.2.2.2.2.2.2.2.2.2.2.2.2.2.2.1
theorem dX8_word_r25 : zdcP cX8_word 25 [(.getfield 75, 3), (.iload 5, 2), (.iaload, 1), (.ifCond .eq 44, 3), (.iload 4, 2), (.aload_n 0, 1), (.getfield 165, 3), (.if_icmp .ge 35, 3), (.aload_n 0, 1), (.getfield 68, 3), (.aload_n 0, 1), (.getfield 168, 3), (.iload 4, 2), (.iadd, 1), (.laload, 1), (.l2i, 1)] := zdcA_ok (by decide +kernel)
theorem dX8_word_25 : decode cX8_word 25 = .ok (.getfield 75, 3) := dX8_word_r25.1
theorem dX8_word_28 : decode cX8_word 28 = .ok (.iload 5, 2) := dX8_word_r25.2.1
theorem dX8_word_30 : decode cX8_word 30 = .ok (.iaload, 1) := dX8_word_r25.2.2.1
theorem dX8_word_31 : decode cX8_word 31 = .ok (.ifCond .eq 44, 3) := dX8_word_r25.2.2.2.1
theorem dX8_word_34 : decode cX8_word 34 = .ok (.iload 4, 2) := dX8_word_r25.2.2.2.2.1
theorem dX8_word_36 : decode cX8_word 36 = .ok (.aload_n 0, 1) := dX8_word_r25.2.2.2.2.2.1
theorem dX8_word_37 : decode cX8_word 37 = .ok (.getfield 165, 3) := dX8_word_r25.2.2.2.2.2.2.1
theorem dX8_word_40 : decode cX8_word 40 = .ok (.if_icmp .ge 35, 3) := dX8_word_r25.2.2.2.2.2.2.2.1
theorem dX8_word_43 : decode cX8_word 43 = .ok (.aload_n 0, 1) := dX8_word_r25.2.2.2.2.2.2.2.2.1
theorem dX8_word_44 : decode cX8_word 44 = .ok (.getfield 68, 3) := dX8_word_r25.2.2.2.2.2.2.2.2.2.1
theorem dX8_word_47 : decode cX8_word 47 = .ok (.aload_n 0, 1) := dX8_word_r25.2.2.2.2.2.2.2.2.2.2.1
theorem dX8_word_48 : decode cX8_word 48 = .ok (.getfield 168, 3) := dX8_word_r25.2.2.2.2.2.2.2.2.2.2.2.1
theorem dX8_word_51 : decode cX8_word 51 = .ok (.iload 4, 2) := dX8_word_r25.2.2.2.2.2.2.2.2.2.2.2.2.1
theorem dX8_word_53 : decode cX8_word 53 = .ok (.iadd, 1) := dX8_word_r25.2.2.2.2.2.2.2.2.2.2.2.2.2.1
theorem dX8_word_54 : decode cX8_word 54 = .ok (.laload, 1) := dX8_word_r25.2.2.2.2.2.2.2.2.2.2.2.2.2.2.1
theorem dX8_word_55 : decode cX8_word 55 = .ok (.l2i, 1) := dX8_word_r25.2.2.2.2.2.2.2.2.2.2.2.2.2.2.2.1
theorem dX8_word_r56 : zdcP cX8_word 56 [(.aload_n 0, 1), (.getfield 75, 3), (.iload 5, 2), (.iaload, 1), (.if_icmp .ne 12, 3), (.iinc 4 1, 3), (.iinc 5 1, 3), (.goto (-48), 3), (.aload_n 0, 1), (.getfield 75, 3), (.iload 5, 2), (.iaload, 1), (.ifCond .ne 11, 3), (.aload_n 0, 1), (.iload 4, 2), (.putfield 162, 3)] := zdcA_ok (by decide +kernel)
theorem dX8_word_56 : decode cX8_word 56 = .ok (.aload_n 0, 1) := dX8_word_r56.1
theorem dX8_word_57 : decode cX8_word 57 = .ok (.getfield 75, 3) := dX8_word_r56.2.1
theorem dX8_word_60 : decode cX8_word 60 = .ok (.iload 5, 2) := dX8_word_r56.2.2.1
theorem dX8_word_62 : decode cX8_word 62 = .ok (.iaload, 1) := dX8_word_r56.2.2.2.1
theorem dX8_word_63 : decode cX8_word 63 = .ok (.if_icmp .ne 12, 3) := dX8_word_r56.2.2.2.2.1
theorem dX8_word_66 : decode cX8_word 66 = .ok (.iinc 4 1, 3) := dX8_word_r56.2.2.2.2.2.1
theorem dX8_word_69 : decode cX8_word 69 = .ok (.iinc 5 1, 3) := dX8_word_r56.2.2.2.2.2.2.1
theorem dX8_word_72 : decode cX8_word 72 = .ok (.goto (-48), 3) := dX8_word_r56.2.2.2.2.2.2.2.1
theorem dX8_word_75 : decode cX8_word 75 = .ok (.aload_n 0, 1) := dX8_word_r56.2.2.2.2.2.2.2.2.1
theorem dX8_word_76 : decode cX8_word 76 = .ok (.getfield 75, 3) := dX8_word_r56.2.2.2.2.2.2.2.2.2.1
theorem dX8_word_79 : decode cX8_word 79 = .ok (.iload 5, 2) := dX8_word_r56.2.2.2.2.2.2.2.2.2.2.1
theorem dX8_word_81 : decode cX8_word 81 = .ok (.iaload, 1) := dX8_word_r56.2.2.2.2.2.2.2.2.2.2.2.1
theorem dX8_word_82 : decode cX8_word 82 = .ok (.ifCond .ne 11, 3) := dX8_word_r56.2.2.2.2.2.2.2.2.2.2.2.2.1
theorem dX8_word_85 : decode cX8_word 85 = .ok (.aload_n 0, 1) := dX8_word_r56.2.2.2.2.2.2.2.2.2.2.2.2.2.1
theorem dX8_word_86 : decode cX8_word 86 = .ok (.iload 4, 2) := dX8_word_r56.2.2.2.2.2.2.2.2.2.2.2.2.2.2.1
theorem dX8_word_88 : decode cX8_word 88 = .ok (.putfield 162, 3) := dX8_word_r56.2.2.2.2.2.2.2.2.2.2.2.2.2.2.2.1
theorem dX8_word_r91 : zdcP cX8_word 91 [(.iload_n 3, 1), (.ireturn, 1), (.iload 4, 2), (.iload_n 2, 1), (.if_icmp .le 8, 3), (.iload 4, 2), (.goto 4, 3), (.iload_n 2, 1), (.istore_n 2, 1), (.aload_n 0, 1), (.getfield 75, 3), (.iload_n 1, 1), (.iaload, 1), (.ifCond .eq 9, 3), (.iinc 1 1, 3), (.goto (-12), 3)] := zdcA_ok (by decide +kernel)
theorem dX8_word_91 : decode cX8_word 91 = .ok (.iload_n 3, 1) := dX8_word_r91.1
theorem dX8_word_92 : decode cX8_word 92 = .ok (.ireturn, 1) := dX8_word_r91.2.1
theorem dX8_word_93 : decode cX8_word 93 = .ok (.iload 4, 2) := dX8_word_r91.2.2.1
theorem dX8_word_95 : decode cX8_word 95 = .ok (.iload_n 2, 1) := dX8_word_r91.2.2.2.1
theorem dX8_word_96 : decode cX8_word 96 = .ok (.if_icmp .le 8, 3) := dX8_word_r91.2.2.2.2.1
theorem dX8_word_99 : decode cX8_word 99 = .ok (.iload 4, 2) := dX8_word_r91.2.2.2.2.2.1
theorem dX8_word_101 : decode cX8_word 101 = .ok (.goto 4, 3) := dX8_word_r91.2.2.2.2.2.2.1
theorem dX8_word_104 : decode cX8_word 104 = .ok (.iload_n 2, 1) := dX8_word_r91.2.2.2.2.2.2.2.1
theorem dX8_word_105 : decode cX8_word 105 = .ok (.istore_n 2, 1) := dX8_word_r91.2.2.2.2.2.2.2.2.1
theorem dX8_word_106 : decode cX8_word 106 = .ok (.aload_n 0, 1) := dX8_word_r91.2.2.2.2.2.2.2.2.2.1
theorem dX8_word_107 : decode cX8_word 107 = .ok (.getfield 75, 3) := dX8_word_r91.2.2.2.2.2.2.2.2.2.2.1
theorem dX8_word_110 : decode cX8_word 110 = .ok (.iload_n 1, 1) := dX8_word_r91.2.2.2.2.2.2.2.2.2.2.2.1
theorem dX8_word_111 : decode cX8_word 111 = .ok (.iaload, 1) := dX8_word_r91.2.2.2.2.2.2.2.2.2.2.2.2.1
theorem dX8_word_112 : decode cX8_word 112 = .ok (.ifCond .eq 9, 3) := dX8_word_r91.2.2.2.2.2.2.2.2.2.2.2.2.2.1
theorem dX8_word_115 : decode cX8_word 115 = .ok (.iinc 1 1, 3) := dX8_word_r91.2.2.2.2.2.2.2.2.2.2.2.2.2.2.1
theorem dX8_word_118 : decode cX8_word 118 = .ok (.goto (-12), 3) := dX8_word_r91.2.2.2.2.2.2.2.2.2.2.2.2.2.2.2.1
theorem dX8_word_r121 : zdcP cX8_word 121 [(.iinc 1 1, 3), (.iinc 3 1, 3), (.goto (-118), 3), (.aload_n 0, 1), (.iload_n 2, 1), (.putfield 159, 3), (.iconst (-1), 1), (.ireturn, 1)] := zdcA_ok (by decide +kernel)
theorem dX8_word_121 : decode cX8_word 121 = .ok (.iinc 1 1, 3) := dX8_word_r121.1
theorem dX8_word_124 : decode cX8_word 124 = .ok (.iinc 3 1, 3) := dX8_word_r121.2.1
theorem dX8_word_127 : decode cX8_word 127 = .ok (.goto (-118), 3) := dX8_word_r121.2.2.1
theorem dX8_word_130 : decode cX8_word 130 = .ok (.aload_n 0, 1) := dX8_word_r121.2.2.2.1
theorem dX8_word_131 : decode cX8_word 131 = .ok (.iload_n 2, 1) := dX8_word_r121.2.2.2.2.1
theorem dX8_word_132 : decode cX8_word 132 = .ok (.putfield 159, 3) := dX8_word_r121.2.2.2.2.2.1
theorem dX8_word_135 : decode cX8_word 135 = .ok (.iconst (-1), 1) := dX8_word_r121.2.2.2.2.2.2.1
theorem dX8_word_136 : decode cX8_word 136 = .ok (.ireturn, 1) := dX8_word_r121.2.2.2.2.2.2.2.1
def wq_155_106 (F9 : Int32 → Int32 → Int32 → zf_Me → Prop) (Q : Int32 → zf_Me → Prop) : Nat → Int32 → Int32 → Int32 → zf_Me → Prop
  | 0, _, _, _, _ => False
  | n + 1, v1, v2, v3, m => ((0 ≤ (Int32.toInt v1) ∧ (Int32.toInt v1) < (75 : Int)) ∧ ((((m.1 76 (Int32.toInt v1).toNat)).toInt = 0 → F9 (v1 + 1) v2 (v3 + 1) m) ∧ (¬ ((m.1 76 (Int32.toInt v1).toNat)).toInt = 0 → wq_155_106 F9 Q n (v1 + 1) v2 v3 m)))
theorem zq_155_106 {d : Nat} (hd : 0 ≤ d) {F9 : Int32 → Int32 → Int32 → zf_Me → Prop} {Q : Int32 → zf_Me → Prop} (hF9 : ∀ (v1 : Int32) (v2 : Int32) (v3 : Int32) (m : zf_Me), F9 v1 v2 v3 m → zf_W none 0 0 d zt_155 9 [some (.inr (.inr (1, 63))), some (.inl v1), some (.inl v2), some (.inl v3), none, none] [] m (zf_I Q)) : ∀ (n : Nat) (v1 : Int32) (v2 : Int32) (v3 : Int32) (m : zf_Me), wq_155_106 F9 Q n v1 v2 v3 m → zf_W none 0 0 d zt_155 106 [some (.inr (.inr (1, 63))), some (.inl v1), some (.inl v2), some (.inl v3), none, none] [] m (zf_I Q) := by
  intro n
  induction n with
  | zero =>
    intro v1 v2 v3 m h
    exact h.elim
  | succ n ih =>
    intro v1 v2 v3 m h
    unfold wq_155_106 at h
    refine zf_ld (pc' := 107) (v := .inr (.inr (1, 63))) dX8_word_106 rfl (fun _ _ _ => rfl) rfl rfl rfl ?_
    refine zf_gfr (pc' := 110) (b := 76) dX8_word_107 rfl rfl (by decide) rfl rfl ?_
    refine zf_ld (pc' := 111) (v := .inl v1) dX8_word_110 rfl (fun _ _ _ => rfl) rfl rfl rfl ?_
    refine zf_ial (pc' := 112) dX8_word_111 rfl (⟨by decide, rfl⟩ : zf_arr 76 75).1 (⟨by decide, rfl⟩ : zf_arr 76 75).2 h.1 rfl ?_
    replace h := h.2
    refine zf_if_eq (tgt := 121) (pc' := 115) dX8_word_112 rfl rfl (fun g => ?_) (fun g => ?_)
    · replace h := h.1 g
      refine zf_ii (y := (v1 + 1)) (L2 := [some (.inr (.inr (1, 63))), some (.inl (v1 + 1)), some (.inl v2), some (.inl v3), none, none]) (pc' := 124) dX8_word_121 rfl rfl rfl rfl rfl ?_
      refine zf_ii (y := (v3 + 1)) (L2 := [some (.inr (.inr (1, 63))), some (.inl (v1 + 1)), some (.inl v2), some (.inl (v3 + 1)), none, none]) (pc' := 127) dX8_word_124 rfl rfl rfl rfl rfl ?_
      refine zf_goto (tgt := 9) dX8_word_127 rfl ?_
      exact zf_lo (hF9 _ _ _ _ h) ⟨rfl, rfl, rfl, rfl, trivial⟩
    · replace h := h.2 g
      refine zf_ii (y := (v1 + 1)) (L2 := [some (.inr (.inr (1, 63))), some (.inl (v1 + 1)), some (.inl v2), some (.inl v3), none, none]) (pc' := 118) dX8_word_115 rfl rfl rfl rfl rfl ?_
      refine zf_goto (tgt := 106) dX8_word_118 rfl ?_
      exact zf_lo (ih _ _ _ _ h) ⟨rfl, rfl, rfl, rfl, trivial⟩
def wq_155_75 (F9 : Int32 → Int32 → Int32 → zf_Me → Prop) (v1 : Int32) (v2 : Int32) (v3 : Int32) (v4 : Int32) (v5 : Int32) (m : zf_Me) (Q : Int32 → zf_Me → Prop) : Prop := ((0 ≤ (Int32.toInt v5) ∧ (Int32.toInt v5) < (75 : Int)) ∧ ((¬ ((m.1 76 (Int32.toInt v5).toNat)).toInt = 0 → ((v4.toInt ≤ v2.toInt → (∃ n106, wq_155_106 F9 Q n106 v1 v2 v3 m)) ∧ (v4.toInt > v2.toInt → (∃ n106, wq_155_106 F9 Q n106 v1 v4 v3 m)))) ∧ (((m.1 76 (Int32.toInt v5).toNat)).toInt = 0 → (∀ m3, m3 = zf_u m 63 30 v4 → Q v3 m3))))
theorem zq_155_75 {d : Nat} (hd : 0 ≤ d) {F9 : Int32 → Int32 → Int32 → zf_Me → Prop} {Q : Int32 → zf_Me → Prop} (hF9 : ∀ (v1 : Int32) (v2 : Int32) (v3 : Int32) (m : zf_Me), F9 v1 v2 v3 m → zf_W none 0 0 d zt_155 9 [some (.inr (.inr (1, 63))), some (.inl v1), some (.inl v2), some (.inl v3), none, none] [] m (zf_I Q)) {v1 : Int32} {v2 : Int32} {v3 : Int32} {v4 : Int32} {v5 : Int32} {m : zf_Me} (h : wq_155_75 F9 v1 v2 v3 v4 v5 m Q) : zf_W none 0 0 d zt_155 75 [some (.inr (.inr (1, 63))), some (.inl v1), some (.inl v2), some (.inl v3), some (.inl v4), some (.inl v5)] [] m (zf_I Q) := by
  unfold wq_155_75 at h
  refine zf_ld (pc' := 76) (v := .inr (.inr (1, 63))) dX8_word_75 rfl (fun _ _ _ => rfl) rfl rfl rfl ?_
  refine zf_gfr (pc' := 79) (b := 76) dX8_word_76 rfl rfl (by decide) rfl rfl ?_
  refine zf_ld (pc' := 81) (v := .inl v5) dX8_word_79 rfl (fun _ _ _ => rfl) rfl rfl rfl ?_
  refine zf_ial (pc' := 82) dX8_word_81 rfl (⟨by decide, rfl⟩ : zf_arr 76 75).1 (⟨by decide, rfl⟩ : zf_arr 76 75).2 h.1 rfl ?_
  replace h := h.2
  refine zf_if_ne (tgt := 93) (pc' := 85) dX8_word_82 rfl rfl (fun g => ?_) (fun g => ?_)
  · replace h := h.1 g
    refine zf_ld (pc' := 95) (v := .inl v4) dX8_word_93 rfl (fun _ _ _ => rfl) rfl rfl rfl ?_
    refine zf_ld (pc' := 96) (v := .inl v2) dX8_word_95 rfl (fun _ _ _ => rfl) rfl rfl rfl ?_
    refine zf_icmp_le (tgt := 104) (pc' := 99) dX8_word_96 rfl rfl (fun g => ?_) (fun g => ?_)
    · replace h := h.1 g
      refine zf_ld (pc' := 105) (v := .inl v2) dX8_word_104 rfl (fun _ _ _ => rfl) rfl rfl rfl ?_
      refine zf_st (pc' := 106) (L2 := [some (.inr (.inr (1, 63))), some (.inl v1), some (.inl v2), some (.inl v3), some (.inl v4), some (.inl v5)]) dX8_word_105 rfl (fun _ _ _ => rfl) rfl rfl rfl rfl rfl rfl ?_
      obtain ⟨n106, h⟩ := h
      exact zf_lo (zq_155_106 (by omega) hF9 n106 _ _ _ _ h) ⟨rfl, rfl, rfl, rfl, trivial⟩
    · replace h := h.2 g
      refine zf_ld (pc' := 101) (v := .inl v4) dX8_word_99 rfl (fun _ _ _ => rfl) rfl rfl rfl ?_
      refine zf_goto (tgt := 105) dX8_word_101 rfl ?_
      refine zf_st (pc' := 106) (L2 := [some (.inr (.inr (1, 63))), some (.inl v1), some (.inl v4), some (.inl v3), some (.inl v4), some (.inl v5)]) dX8_word_105 rfl (fun _ _ _ => rfl) rfl rfl rfl rfl rfl rfl ?_
      obtain ⟨n106, h⟩ := h
      exact zf_lo (zq_155_106 (by omega) hF9 n106 _ _ _ _ h) ⟨rfl, rfl, rfl, rfl, trivial⟩
  · replace h := h.2 g
    refine zf_ld (pc' := 86) (v := .inr (.inr (1, 63))) dX8_word_85 rfl (fun _ _ _ => rfl) rfl rfl rfl ?_
    refine zf_ld (pc' := 88) (v := .inl v4) dX8_word_86 rfl (fun _ _ _ => rfl) rfl rfl rfl ?_
    refine zf_pf (pc' := 91) dX8_word_88 rfl rfl (by decide) rfl rfl rfl (fun m3 e4 => ?_)
    replace h := h m3 e4
    refine zf_ld (pc' := 92) (v := .inl v3) dX8_word_91 rfl (fun _ _ _ => rfl) rfl rfl rfl ?_
    exact zf_ri dX8_word_92 rfl h
def wq_155_24 (F9 : Int32 → Int32 → Int32 → zf_Me → Prop) (Q : Int32 → zf_Me → Prop) : Nat → Int32 → Int32 → Int32 → Int32 → Int32 → zf_Me → Prop
  | 0, _, _, _, _, _, _ => False
  | n + 1, v1, v2, v3, v4, v5, m => ((0 ≤ (Int32.toInt v5) ∧ (Int32.toInt v5) < (75 : Int)) ∧ ((((m.1 76 (Int32.toInt v5).toNat)).toInt = 0 → wq_155_75 F9 v1 v2 v3 v4 v5 m Q) ∧ (¬ ((m.1 76 (Int32.toInt v5).toNat)).toInt = 0 → ((v4.toInt ≥ ((m.1 63 31)).toInt → wq_155_75 F9 v1 v2 v3 v4 v5 m Q) ∧ (v4.toInt < ((m.1 63 31)).toInt → ((0 ≤ (Int32.toInt ((m.1 63 29) + v4)) ∧ (Int32.toInt ((m.1 63 29) + v4)) < (1280 : Int)) ∧ ((0 ≤ (Int32.toInt v5) ∧ (Int32.toInt v5) < (75 : Int)) ∧ ((¬ ((Int64.toInt32 (m.2 74 (Int32.toInt ((m.1 63 29) + v4)).toNat))).toInt = ((m.1 76 (Int32.toInt v5).toNat)).toInt → wq_155_75 F9 v1 v2 v3 v4 v5 m Q) ∧ (((Int64.toInt32 (m.2 74 (Int32.toInt ((m.1 63 29) + v4)).toNat))).toInt = ((m.1 76 (Int32.toInt v5).toNat)).toInt → wq_155_24 F9 Q n v1 v2 v3 (v4 + 1) (v5 + 1) m)))))))))
theorem zq_155_24 {d : Nat} (hd : 0 ≤ d) {F9 : Int32 → Int32 → Int32 → zf_Me → Prop} {Q : Int32 → zf_Me → Prop} (hF9 : ∀ (v1 : Int32) (v2 : Int32) (v3 : Int32) (m : zf_Me), F9 v1 v2 v3 m → zf_W none 0 0 d zt_155 9 [some (.inr (.inr (1, 63))), some (.inl v1), some (.inl v2), some (.inl v3), none, none] [] m (zf_I Q)) : ∀ (n : Nat) (v1 : Int32) (v2 : Int32) (v3 : Int32) (v4 : Int32) (v5 : Int32) (m : zf_Me), wq_155_24 F9 Q n v1 v2 v3 v4 v5 m → zf_W none 0 0 d zt_155 24 [some (.inr (.inr (1, 63))), some (.inl v1), some (.inl v2), some (.inl v3), some (.inl v4), some (.inl v5)] [] m (zf_I Q) := by
  intro n
  induction n with
  | zero =>
    intro v1 v2 v3 v4 v5 m h
    exact h.elim
  | succ n ih =>
    intro v1 v2 v3 v4 v5 m h
    unfold wq_155_24 at h
    refine zf_ld (pc' := 25) (v := .inr (.inr (1, 63))) dX8_word_24 rfl (fun _ _ _ => rfl) rfl rfl rfl ?_
    refine zf_gfr (pc' := 28) (b := 76) dX8_word_25 rfl rfl (by decide) rfl rfl ?_
    refine zf_ld (pc' := 30) (v := .inl v5) dX8_word_28 rfl (fun _ _ _ => rfl) rfl rfl rfl ?_
    refine zf_ial (pc' := 31) dX8_word_30 rfl (⟨by decide, rfl⟩ : zf_arr 76 75).1 (⟨by decide, rfl⟩ : zf_arr 76 75).2 h.1 rfl ?_
    replace h := h.2
    refine zf_if_eq (tgt := 75) (pc' := 34) dX8_word_31 rfl rfl (fun g => ?_) (fun g => ?_)
    · replace h := h.1 g
      exact zf_lo (zq_155_75 (by omega) hF9 h) ⟨rfl, rfl, rfl, rfl, rfl, rfl, trivial⟩
    · replace h := h.2 g
      refine zf_ld (pc' := 36) (v := .inl v4) dX8_word_34 rfl (fun _ _ _ => rfl) rfl rfl rfl ?_
      refine zf_ld (pc' := 37) (v := .inr (.inr (1, 63))) dX8_word_36 rfl (fun _ _ _ => rfl) rfl rfl rfl ?_
      refine zf_gfi (pc' := 40) dX8_word_37 rfl rfl (by decide) rfl rfl ?_
      refine zf_icmp_ge (tgt := 75) (pc' := 43) dX8_word_40 rfl rfl (fun g => ?_) (fun g => ?_)
      · replace h := h.1 g
        exact zf_lo (zq_155_75 (by omega) hF9 h) ⟨rfl, rfl, rfl, rfl, rfl, rfl, trivial⟩
      · replace h := h.2 g
        refine zf_ld (pc' := 44) (v := .inr (.inr (1, 63))) dX8_word_43 rfl (fun _ _ _ => rfl) rfl rfl rfl ?_
        refine zf_gfr (pc' := 47) (b := 74) dX8_word_44 rfl rfl (by decide) rfl rfl ?_
        refine zf_ld (pc' := 48) (v := .inr (.inr (1, 63))) dX8_word_47 rfl (fun _ _ _ => rfl) rfl rfl rfl ?_
        refine zf_gfi (pc' := 51) dX8_word_48 rfl rfl (by decide) rfl rfl ?_
        refine zf_ld (pc' := 53) (v := .inl v4) dX8_word_51 rfl (fun _ _ _ => rfl) rfl rfl rfl ?_
        refine zf_in (pc' := 54) (S' := [.inl ((m.1 63 29) + v4), .inr (.inr (1, 74))]) dX8_word_53 rfl (fun _ _ _ => rfl) ?_
        refine zf_lal (pc' := 55) dX8_word_54 rfl (⟨by decide, rfl⟩ : zf_larr 74 1280).1 (⟨by decide, rfl⟩ : zf_larr 74 1280).2 h.1 rfl ?_
        replace h := h.2
        refine zf_in (pc' := 56) (S' := [.inl (Int64.toInt32 (m.2 74 (Int32.toInt ((m.1 63 29) + v4)).toNat))]) dX8_word_55 rfl (fun _ _ _ => rfl) ?_
        refine zf_ld (pc' := 57) (v := .inr (.inr (1, 63))) dX8_word_56 rfl (fun _ _ _ => rfl) rfl rfl rfl ?_
        refine zf_gfr (pc' := 60) (b := 76) dX8_word_57 rfl rfl (by decide) rfl rfl ?_
        refine zf_ld (pc' := 62) (v := .inl v5) dX8_word_60 rfl (fun _ _ _ => rfl) rfl rfl rfl ?_
        refine zf_ial (pc' := 63) dX8_word_62 rfl (⟨by decide, rfl⟩ : zf_arr 76 75).1 (⟨by decide, rfl⟩ : zf_arr 76 75).2 h.1 rfl ?_
        replace h := h.2
        refine zf_icmp_ne (tgt := 75) (pc' := 66) dX8_word_63 rfl rfl (fun g => ?_) (fun g => ?_)
        · replace h := h.1 g
          exact zf_lo (zq_155_75 (by omega) hF9 h) ⟨rfl, rfl, rfl, rfl, rfl, rfl, trivial⟩
        · replace h := h.2 g
          refine zf_ii (y := (v4 + 1)) (L2 := [some (.inr (.inr (1, 63))), some (.inl v1), some (.inl v2), some (.inl v3), some (.inl (v4 + 1)), some (.inl v5)]) (pc' := 69) dX8_word_66 rfl rfl rfl rfl rfl ?_
          refine zf_ii (y := (v5 + 1)) (L2 := [some (.inr (.inr (1, 63))), some (.inl v1), some (.inl v2), some (.inl v3), some (.inl (v4 + 1)), some (.inl (v5 + 1))]) (pc' := 72) dX8_word_69 rfl rfl rfl rfl rfl ?_
          refine zf_goto (tgt := 24) dX8_word_72 rfl ?_
          exact zf_lo (ih _ _ _ _ _ _ h) ⟨rfl, rfl, rfl, rfl, rfl, rfl, trivial⟩
def wq_155_9 (Q : Int32 → zf_Me → Prop) : Nat → Int32 → Int32 → Int32 → zf_Me → Prop
  | 0, _, _, _, _ => False
  | n + 1, v1, v2, v3, m => ((v3.toInt ≥ 12 → (∀ m1, m1 = zf_u m 63 33 v2 → Q (-1) m1)) ∧ (v3.toInt < 12 → (∃ n24, wq_155_24 (wq_155_9 Q n) Q n24 v1 v2 v3 (m.1 63 30) v1 m)))
theorem zq_155_9 {d : Nat} (hd : 0 ≤ d) {Q : Int32 → zf_Me → Prop} : ∀ (n : Nat) (v1 : Int32) (v2 : Int32) (v3 : Int32) (m : zf_Me), wq_155_9 Q n v1 v2 v3 m → zf_W none 0 0 d zt_155 9 [some (.inr (.inr (1, 63))), some (.inl v1), some (.inl v2), some (.inl v3), none, none] [] m (zf_I Q) := by
  intro n
  induction n with
  | zero =>
    intro v1 v2 v3 m h
    exact h.elim
  | succ n ih =>
    intro v1 v2 v3 m h
    unfold wq_155_9 at h
    refine zf_ld (pc' := 10) (v := .inl v3) dX8_word_9 rfl (fun _ _ _ => rfl) rfl rfl rfl ?_
    refine zf_bi (v := 12) (pc' := 12) dX8_word_10 rfl rfl ?_
    refine zf_icmp_ge (tgt := 130) (pc' := 15) dX8_word_12 rfl rfl (fun g => ?_) (fun g => ?_)
    · replace h := h.1 g
      refine zf_ld (pc' := 131) (v := .inr (.inr (1, 63))) dX8_word_130 rfl (fun _ _ _ => rfl) rfl rfl rfl ?_
      refine zf_ld (pc' := 132) (v := .inl v2) dX8_word_131 rfl (fun _ _ _ => rfl) rfl rfl rfl ?_
      refine zf_pf (pc' := 135) dX8_word_132 rfl rfl (by decide) rfl rfl rfl (fun m1 e2 => ?_)
      replace h := h m1 e2
      refine zf_ic (v := (-1)) (pc' := 136) dX8_word_135 rfl rfl ?_
      exact zf_ri dX8_word_136 rfl h
    · replace h := h.2 g
      refine zf_ld (pc' := 16) (v := .inr (.inr (1, 63))) dX8_word_15 rfl (fun _ _ _ => rfl) rfl rfl rfl ?_
      refine zf_gfi (pc' := 19) dX8_word_16 rfl rfl (by decide) rfl rfl ?_
      refine zf_st (pc' := 21) (L2 := [some (.inr (.inr (1, 63))), some (.inl v1), some (.inl v2), some (.inl v3), some (.inl (m.1 63 30)), none]) dX8_word_19 rfl (fun _ _ _ => rfl) rfl rfl rfl rfl rfl rfl ?_
      refine zf_ld (pc' := 22) (v := .inl v1) dX8_word_21 rfl (fun _ _ _ => rfl) rfl rfl rfl ?_
      refine zf_st (pc' := 24) (L2 := [some (.inr (.inr (1, 63))), some (.inl v1), some (.inl v2), some (.inl v3), some (.inl (m.1 63 30)), some (.inl v1)]) dX8_word_22 rfl (fun _ _ _ => rfl) rfl rfl rfl rfl rfl rfl ?_
      obtain ⟨n24, h⟩ := h
      exact zf_lo (zq_155_24 (by omega) ih n24 _ _ _ _ _ _ h) ⟨rfl, rfl, rfl, rfl, rfl, rfl, trivial⟩
def wp_155 (m : zf_Me) (Q : Int32 → zf_Me → Prop) : Prop := (∃ n9, wq_155_9 Q n9 0 (m.1 63 30) 0 m)
theorem zr_155 {d : Nat} (hd : 0 ≤ d) {Q : Int32 → zf_Me → Prop} {m : zf_Me} (h : wp_155 m Q) : zf_M d 155 [.inr (.inr (1, 63))] m (zf_I Q) := by
  unfold wp_155 at h
  refine zf_M_of (Nat.le_of_ble_eq_true rfl) zm_155 (L := [some (.inr (.inr (1, 63))), none, none, none, none, none]) rfl ?_
  refine zf_ic (v := 0) (pc' := 1) dX8_word_0 rfl rfl ?_
  refine zf_st (pc' := 2) (L2 := [some (.inr (.inr (1, 63))), some (.inl 0), none, none, none, none]) dX8_word_1 rfl (fun _ _ _ => rfl) rfl rfl rfl rfl rfl rfl ?_
  refine zf_ld (pc' := 3) (v := .inr (.inr (1, 63))) dX8_word_2 rfl (fun _ _ _ => rfl) rfl rfl rfl ?_
  refine zf_gfi (pc' := 6) dX8_word_3 rfl rfl (by decide) rfl rfl ?_
  refine zf_st (pc' := 7) (L2 := [some (.inr (.inr (1, 63))), some (.inl 0), some (.inl (m.1 63 30)), none, none, none]) dX8_word_6 rfl (fun _ _ _ => rfl) rfl rfl rfl rfl rfl rfl ?_
  refine zf_ic (v := 0) (pc' := 8) dX8_word_7 rfl rfl ?_
  refine zf_st (pc' := 9) (L2 := [some (.inr (.inr (1, 63))), some (.inl 0), some (.inl (m.1 63 30)), some (.inl 0), none, none]) dX8_word_8 rfl (fun _ _ _ => rfl) rfl rfl rfl rfl rfl rfl ?_
  obtain ⟨n9, h⟩ := h
  exact zf_lo (zq_155_9 (by omega) n9 _ _ _ _ h) ⟨rfl, rfl, rfl, rfl, trivial⟩
def zt_156 : zx_MT := (8, yX8_isDigit, cX8_isDigit, 1, (some FieldType.boolean), 0, 0)
theorem zm_156 : zx_m 156 = zt_156 := rfl
theorem dX8_isDigit_r0 : zdcP cX8_isDigit 0 [(.aload_n 0, 1), (.getfield 162, 3), (.aload_n 0, 1), (.getfield 165, 3), (.if_icmp .ge 47, 3), (.aload_n 0, 1), (.getfield 68, 3), (.aload_n 0, 1), (.getfield 168, 3), (.aload_n 0, 1), (.getfield 162, 3), (.iadd, 1), (.laload, 1), (.l2i, 1), (.bipush 48, 2), (.if_icmp .lt 27, 3)] := zdcA_ok (by decide +kernel)
theorem dX8_isDigit_0 : decode cX8_isDigit 0 = .ok (.aload_n 0, 1) := dX8_isDigit_r0.1
theorem dX8_isDigit_1 : decode cX8_isDigit 1 = .ok (.getfield 162, 3) := dX8_isDigit_r0.2.1
theorem dX8_isDigit_4 : decode cX8_isDigit 4 = .ok (.aload_n 0, 1) := dX8_isDigit_r0.2.2.1
theorem dX8_isDigit_5 : decode cX8_isDigit 5 = .ok (.getfield 165, 3) := dX8_isDigit_r0.2.2.2.1
theorem dX8_isDigit_8 : decode cX8_isDigit 8 = .ok (.if_icmp .ge 47, 3) := dX8_isDigit_r0.2.2.2.2.1
theorem dX8_isDigit_11 : decode cX8_isDigit 11 = .ok (.aload_n 0, 1) := dX8_isDigit_r0.2.2.2.2.2.1
theorem dX8_isDigit_12 : decode cX8_isDigit 12 = .ok (.getfield 68, 3) := dX8_isDigit_r0.2.2.2.2.2.2.1
theorem dX8_isDigit_15 : decode cX8_isDigit 15 = .ok (.aload_n 0, 1) := dX8_isDigit_r0.2.2.2.2.2.2.2.1
theorem dX8_isDigit_16 : decode cX8_isDigit 16 = .ok (.getfield 168, 3) := dX8_isDigit_r0.2.2.2.2.2.2.2.2.1
theorem dX8_isDigit_19 : decode cX8_isDigit 19 = .ok (.aload_n 0, 1) := dX8_isDigit_r0.2.2.2.2.2.2.2.2.2.1
theorem dX8_isDigit_20 : decode cX8_isDigit 20 = .ok (.getfield 162, 3) := dX8_isDigit_r0.2.2.2.2.2.2.2.2.2.2.1
theorem dX8_isDigit_23 : decode cX8_isDigit 23 = .ok (.iadd, 1) := dX8_isDigit_r0.2.2.2.2.2.2.2.2.2.2.2.1
theorem dX8_isDigit_24 : decode cX8_isDigit 24 = .ok (.laload, 1) := dX8_isDigit_r0.2.2.2.2.2.2.2.2.2.2.2.2.1
theorem dX8_isDigit_25 : decode cX8_isDigit 25 = .ok (.l2i, 1) := dX8_isDigit_r0.2.2.2.2.2.2.2.2.2.2.2.2.2.1
theorem dX8_isDigit_26 : decode cX8_isDigit 26 = .ok (.bipush 48, 2) := dX8_isDigit_r0.2.2.2.2.2.2.2.2.2.2.2.2.2.2.1
theorem dX8_isDigit_28 : decode cX8_isDigit 28 = .ok (.if_icmp .lt 27, 3) := dX8_isDigit_r0.2.2.2.2.2.2.2.2.2.2.2.2.2.2.2.1
theorem dX8_isDigit_r31 : zdcP cX8_isDigit 31 [(.aload_n 0, 1), (.getfield 68, 3), (.aload_n 0, 1), (.getfield 168, 3), (.aload_n 0, 1), (.getfield 162, 3), (.iadd, 1), (.laload, 1), (.l2i, 1), (.bipush 57, 2), (.if_icmp .gt 7, 3), (.iconst 1, 1), (.goto 4, 3), (.iconst 0, 1), (.ireturn, 1)] := zdcA_ok (by decide +kernel)
theorem dX8_isDigit_31 : decode cX8_isDigit 31 = .ok (.aload_n 0, 1) := dX8_isDigit_r31.1
theorem dX8_isDigit_32 : decode cX8_isDigit 32 = .ok (.getfield 68, 3) := dX8_isDigit_r31.2.1
theorem dX8_isDigit_35 : decode cX8_isDigit 35 = .ok (.aload_n 0, 1) := dX8_isDigit_r31.2.2.1
theorem dX8_isDigit_36 : decode cX8_isDigit 36 = .ok (.getfield 168, 3) := dX8_isDigit_r31.2.2.2.1
theorem dX8_isDigit_39 : decode cX8_isDigit 39 = .ok (.aload_n 0, 1) := dX8_isDigit_r31.2.2.2.2.1
theorem dX8_isDigit_40 : decode cX8_isDigit 40 = .ok (.getfield 162, 3) := dX8_isDigit_r31.2.2.2.2.2.1
theorem dX8_isDigit_43 : decode cX8_isDigit 43 = .ok (.iadd, 1) := dX8_isDigit_r31.2.2.2.2.2.2.1
theorem dX8_isDigit_44 : decode cX8_isDigit 44 = .ok (.laload, 1) := dX8_isDigit_r31.2.2.2.2.2.2.2.1
theorem dX8_isDigit_45 : decode cX8_isDigit 45 = .ok (.l2i, 1) := dX8_isDigit_r31.2.2.2.2.2.2.2.2.1
theorem dX8_isDigit_46 : decode cX8_isDigit 46 = .ok (.bipush 57, 2) := dX8_isDigit_r31.2.2.2.2.2.2.2.2.2.1
theorem dX8_isDigit_48 : decode cX8_isDigit 48 = .ok (.if_icmp .gt 7, 3) := dX8_isDigit_r31.2.2.2.2.2.2.2.2.2.2.1
theorem dX8_isDigit_51 : decode cX8_isDigit 51 = .ok (.iconst 1, 1) := dX8_isDigit_r31.2.2.2.2.2.2.2.2.2.2.2.1
theorem dX8_isDigit_52 : decode cX8_isDigit 52 = .ok (.goto 4, 3) := dX8_isDigit_r31.2.2.2.2.2.2.2.2.2.2.2.2.1
theorem dX8_isDigit_55 : decode cX8_isDigit 55 = .ok (.iconst 0, 1) := dX8_isDigit_r31.2.2.2.2.2.2.2.2.2.2.2.2.2.1
theorem dX8_isDigit_56 : decode cX8_isDigit 56 = .ok (.ireturn, 1) := dX8_isDigit_r31.2.2.2.2.2.2.2.2.2.2.2.2.2.2.1
def wp_156 (m : zf_Me) (Q : Bool → zf_Me → Prop) : Prop := ((((m.1 63 30)).toInt ≥ ((m.1 63 31)).toInt → Q false m) ∧ (((m.1 63 30)).toInt < ((m.1 63 31)).toInt → ((0 ≤ (Int32.toInt ((m.1 63 29) + (m.1 63 30))) ∧ (Int32.toInt ((m.1 63 29) + (m.1 63 30))) < (1280 : Int)) ∧ ((((Int64.toInt32 (m.2 74 (Int32.toInt ((m.1 63 29) + (m.1 63 30))).toNat))).toInt < 48 → Q false m) ∧ (((Int64.toInt32 (m.2 74 (Int32.toInt ((m.1 63 29) + (m.1 63 30))).toNat))).toInt ≥ 48 → ((0 ≤ (Int32.toInt ((m.1 63 29) + (m.1 63 30))) ∧ (Int32.toInt ((m.1 63 29) + (m.1 63 30))) < (1280 : Int)) ∧ ((((Int64.toInt32 (m.2 74 (Int32.toInt ((m.1 63 29) + (m.1 63 30))).toNat))).toInt > 57 → Q false m) ∧ (((Int64.toInt32 (m.2 74 (Int32.toInt ((m.1 63 29) + (m.1 63 30))).toNat))).toInt ≤ 57 → Q true m))))))))
theorem zr_156 {d : Nat} (hd : 0 ≤ d) {Q : Bool → zf_Me → Prop} {m : zf_Me} (h : wp_156 m Q) : zf_M d 156 [.inr (.inr (1, 63))] m (zf_B Q) := by
  unfold wp_156 at h
  refine zf_M_of (Nat.le_of_ble_eq_true rfl) zm_156 (L := [some (.inr (.inr (1, 63)))]) rfl ?_
  refine zf_ld (pc' := 1) (v := .inr (.inr (1, 63))) dX8_isDigit_0 rfl (fun _ _ _ => rfl) rfl rfl rfl ?_
  refine zf_gfi (pc' := 4) dX8_isDigit_1 rfl rfl (by decide) rfl rfl ?_
  refine zf_ld (pc' := 5) (v := .inr (.inr (1, 63))) dX8_isDigit_4 rfl (fun _ _ _ => rfl) rfl rfl rfl ?_
  refine zf_gfi (pc' := 8) dX8_isDigit_5 rfl rfl (by decide) rfl rfl ?_
  refine zf_icmp_ge (tgt := 55) (pc' := 11) dX8_isDigit_8 rfl rfl (fun g => ?_) (fun g => ?_)
  · replace h := h.1 g
    refine zf_ic (v := 0) (pc' := 56) dX8_isDigit_55 rfl rfl ?_
    exact zf_rb (b := false) dX8_isDigit_56 rfl h
  · replace h := h.2 g
    refine zf_ld (pc' := 12) (v := .inr (.inr (1, 63))) dX8_isDigit_11 rfl (fun _ _ _ => rfl) rfl rfl rfl ?_
    refine zf_gfr (pc' := 15) (b := 74) dX8_isDigit_12 rfl rfl (by decide) rfl rfl ?_
    refine zf_ld (pc' := 16) (v := .inr (.inr (1, 63))) dX8_isDigit_15 rfl (fun _ _ _ => rfl) rfl rfl rfl ?_
    refine zf_gfi (pc' := 19) dX8_isDigit_16 rfl rfl (by decide) rfl rfl ?_
    refine zf_ld (pc' := 20) (v := .inr (.inr (1, 63))) dX8_isDigit_19 rfl (fun _ _ _ => rfl) rfl rfl rfl ?_
    refine zf_gfi (pc' := 23) dX8_isDigit_20 rfl rfl (by decide) rfl rfl ?_
    refine zf_in (pc' := 24) (S' := [.inl ((m.1 63 29) + (m.1 63 30)), .inr (.inr (1, 74))]) dX8_isDigit_23 rfl (fun _ _ _ => rfl) ?_
    refine zf_lal (pc' := 25) dX8_isDigit_24 rfl (⟨by decide, rfl⟩ : zf_larr 74 1280).1 (⟨by decide, rfl⟩ : zf_larr 74 1280).2 h.1 rfl ?_
    replace h := h.2
    refine zf_in (pc' := 26) (S' := [.inl (Int64.toInt32 (m.2 74 (Int32.toInt ((m.1 63 29) + (m.1 63 30))).toNat))]) dX8_isDigit_25 rfl (fun _ _ _ => rfl) ?_
    refine zf_bi (v := 48) (pc' := 28) dX8_isDigit_26 rfl rfl ?_
    refine zf_icmp_lt (tgt := 55) (pc' := 31) dX8_isDigit_28 rfl rfl (fun g => ?_) (fun g => ?_)
    · replace h := h.1 g
      refine zf_ic (v := 0) (pc' := 56) dX8_isDigit_55 rfl rfl ?_
      exact zf_rb (b := false) dX8_isDigit_56 rfl h
    · replace h := h.2 g
      refine zf_ld (pc' := 32) (v := .inr (.inr (1, 63))) dX8_isDigit_31 rfl (fun _ _ _ => rfl) rfl rfl rfl ?_
      refine zf_gfr (pc' := 35) (b := 74) dX8_isDigit_32 rfl rfl (by decide) rfl rfl ?_
      refine zf_ld (pc' := 36) (v := .inr (.inr (1, 63))) dX8_isDigit_35 rfl (fun _ _ _ => rfl) rfl rfl rfl ?_
      refine zf_gfi (pc' := 39) dX8_isDigit_36 rfl rfl (by decide) rfl rfl ?_
      refine zf_ld (pc' := 40) (v := .inr (.inr (1, 63))) dX8_isDigit_39 rfl (fun _ _ _ => rfl) rfl rfl rfl ?_
      refine zf_gfi (pc' := 43) dX8_isDigit_40 rfl rfl (by decide) rfl rfl ?_
      refine zf_in (pc' := 44) (S' := [.inl ((m.1 63 29) + (m.1 63 30)), .inr (.inr (1, 74))]) dX8_isDigit_43 rfl (fun _ _ _ => rfl) ?_
      refine zf_lal (pc' := 45) dX8_isDigit_44 rfl (⟨by decide, rfl⟩ : zf_larr 74 1280).1 (⟨by decide, rfl⟩ : zf_larr 74 1280).2 h.1 rfl ?_
      replace h := h.2
      refine zf_in (pc' := 46) (S' := [.inl (Int64.toInt32 (m.2 74 (Int32.toInt ((m.1 63 29) + (m.1 63 30))).toNat))]) dX8_isDigit_45 rfl (fun _ _ _ => rfl) ?_
      refine zf_bi (v := 57) (pc' := 48) dX8_isDigit_46 rfl rfl ?_
      refine zf_icmp_gt (tgt := 55) (pc' := 51) dX8_isDigit_48 rfl rfl (fun g => ?_) (fun g => ?_)
      · replace h := h.1 g
        refine zf_ic (v := 0) (pc' := 56) dX8_isDigit_55 rfl rfl ?_
        exact zf_rb (b := false) dX8_isDigit_56 rfl h
      · replace h := h.2 g
        refine zf_ic (v := 1) (pc' := 52) dX8_isDigit_51 rfl rfl ?_
        refine zf_goto (tgt := 56) dX8_isDigit_52 rfl ?_
        exact zf_rb (b := true) dX8_isDigit_56 rfl h
end
section
/-! part 38: methods 157..: laid by wip/flat/dec.py -/
def zt_157 : zx_MT := (8, yX8_reads, cX8_reads, 2, (some FieldType.boolean), 0, 0)
theorem zm_157 : zx_m 157 = zt_157 := rfl
theorem dX8_reads_r0 : zdcP cX8_reads 0 [(.aload_n 0, 1), (.iconst 0, 1), (.putfield 171, 3), (.aload_n 0, 1), (.invokevirtual 174, 3), (.ifCond .ne 12, 3), (.aload_n 0, 1), (.aload_n 0, 1), (.getfield 162, 3), (.invokevirtual 177, 3), (.ireturn, 1), (.iconst 0, 1), (.istore_n 1, 1), (.iload_n 1, 1), (.iconst 2, 1), (.if_icmp .ge 56, 3)] := zdcA_ok (by decide +kernel)
theorem dX8_reads_0 : decode cX8_reads 0 = .ok (.aload_n 0, 1) := dX8_reads_r0.1
theorem dX8_reads_1 : decode cX8_reads 1 = .ok (.iconst 0, 1) := dX8_reads_r0.2.1
theorem dX8_reads_2 : decode cX8_reads 2 = .ok (.putfield 171, 3) := dX8_reads_r0.2.2.1
theorem dX8_reads_5 : decode cX8_reads 5 = .ok (.aload_n 0, 1) := dX8_reads_r0.2.2.2.1
theorem dX8_reads_6 : decode cX8_reads 6 = .ok (.invokevirtual 174, 3) := dX8_reads_r0.2.2.2.2.1
theorem dX8_reads_9 : decode cX8_reads 9 = .ok (.ifCond .ne 12, 3) := dX8_reads_r0.2.2.2.2.2.1
theorem dX8_reads_12 : decode cX8_reads 12 = .ok (.aload_n 0, 1) := dX8_reads_r0.2.2.2.2.2.2.1
theorem dX8_reads_13 : decode cX8_reads 13 = .ok (.aload_n 0, 1) := dX8_reads_r0.2.2.2.2.2.2.2.1
theorem dX8_reads_14 : decode cX8_reads 14 = .ok (.getfield 162, 3) := dX8_reads_r0.2.2.2.2.2.2.2.2.1
theorem dX8_reads_17 : decode cX8_reads 17 = .ok (.invokevirtual 177, 3) := dX8_reads_r0.2.2.2.2.2.2.2.2.2.1
theorem dX8_reads_20 : decode cX8_reads 20 = .ok (.ireturn, 1) := dX8_reads_r0.2.2.2.2.2.2.2.2.2.2.1
theorem dX8_reads_21 : decode cX8_reads 21 = .ok (.iconst 0, 1) := dX8_reads_r0.2.2.2.2.2.2.2.2.2.2.2.1
theorem dX8_reads_22 : decode cX8_reads 22 = .ok (.istore_n 1, 1) := dX8_reads_r0.2.2.2.2.2.2.2.2.2.2.2.2.1
theorem dX8_reads_23 : decode cX8_reads 23 = .ok (.iload_n 1, 1) := dX8_reads_r0.2.2.2.2.2.2.2.2.2.2.2.2.2.1
theorem dX8_reads_24 : decode cX8_reads 24 = .ok (.iconst 2, 1) := dX8_reads_r0.2.2.2.2.2.2.2.2.2.2.2.2.2.2.1
theorem dX8_reads_25 : decode cX8_reads 25 = .ok (.if_icmp .ge 56, 3) := dX8_reads_r0.2.2.2.2.2.2.2.2.2.2.2.2.2.2.2.1
theorem dX8_reads_r28 : zdcP cX8_reads 28 [(.aload_n 0, 1), (.invokevirtual 174, 3), (.ifCond .eq 49, 3), (.aload_n 0, 1), (.bipush 10, 2), (.aload_n 0, 1), (.getfield 171, 3), (.imul, 1), (.aload_n 0, 1), (.getfield 68, 3), (.aload_n 0, 1), (.getfield 168, 3), (.aload_n 0, 1), (.getfield 162, 3), (.iadd, 1), (.laload, 1)] := zdcA_ok (by decide +kernel)
theorem dX8_reads_28 : decode cX8_reads 28 = .ok (.aload_n 0, 1) := dX8_reads_r28.1
theorem dX8_reads_29 : decode cX8_reads 29 = .ok (.invokevirtual 174, 3) := dX8_reads_r28.2.1
theorem dX8_reads_32 : decode cX8_reads 32 = .ok (.ifCond .eq 49, 3) := dX8_reads_r28.2.2.1
theorem dX8_reads_35 : decode cX8_reads 35 = .ok (.aload_n 0, 1) := dX8_reads_r28.2.2.2.1
theorem dX8_reads_36 : decode cX8_reads 36 = .ok (.bipush 10, 2) := dX8_reads_r28.2.2.2.2.1
theorem dX8_reads_38 : decode cX8_reads 38 = .ok (.aload_n 0, 1) := dX8_reads_r28.2.2.2.2.2.1
theorem dX8_reads_39 : decode cX8_reads 39 = .ok (.getfield 171, 3) := dX8_reads_r28.2.2.2.2.2.2.1
theorem dX8_reads_42 : decode cX8_reads 42 = .ok (.imul, 1) := dX8_reads_r28.2.2.2.2.2.2.2.1
theorem dX8_reads_43 : decode cX8_reads 43 = .ok (.aload_n 0, 1) := dX8_reads_r28.2.2.2.2.2.2.2.2.1
theorem dX8_reads_44 : decode cX8_reads 44 = .ok (.getfield 68, 3) := dX8_reads_r28.2.2.2.2.2.2.2.2.2.1
theorem dX8_reads_47 : decode cX8_reads 47 = .ok (.aload_n 0, 1) := dX8_reads_r28.2.2.2.2.2.2.2.2.2.2.1
theorem dX8_reads_48 : decode cX8_reads 48 = .ok (.getfield 168, 3) := dX8_reads_r28.2.2.2.2.2.2.2.2.2.2.2.1
theorem dX8_reads_51 : decode cX8_reads 51 = .ok (.aload_n 0, 1) := dX8_reads_r28.2.2.2.2.2.2.2.2.2.2.2.2.1
theorem dX8_reads_52 : decode cX8_reads 52 = .ok (.getfield 162, 3) := dX8_reads_r28.2.2.2.2.2.2.2.2.2.2.2.2.2.1
theorem dX8_reads_55 : decode cX8_reads 55 = .ok (.iadd, 1) := dX8_reads_r28.2.2.2.2.2.2.2.2.2.2.2.2.2.2.1
theorem dX8_reads_56 : decode cX8_reads 56 = .ok (.laload, 1) := dX8_reads_r28.2.2.2.2.2.2.2.2.2.2.2.2.2.2.2.1
theorem dX8_reads_r57 : zdcP cX8_reads 57 [(.l2i, 1), (.iadd, 1), (.bipush 48, 2), (.isub, 1), (.putfield 171, 3), (.aload_n 0, 1), (.dup, 1), (.getfield 162, 3), (.iconst 1, 1), (.iadd, 1), (.putfield 162, 3), (.iinc 1 1, 3), (.goto (-55), 3), (.iconst 1, 1), (.ireturn, 1)] := zdcA_ok (by decide +kernel)
theorem dX8_reads_57 : decode cX8_reads 57 = .ok (.l2i, 1) := dX8_reads_r57.1
theorem dX8_reads_58 : decode cX8_reads 58 = .ok (.iadd, 1) := dX8_reads_r57.2.1
theorem dX8_reads_59 : decode cX8_reads 59 = .ok (.bipush 48, 2) := dX8_reads_r57.2.2.1
theorem dX8_reads_61 : decode cX8_reads 61 = .ok (.isub, 1) := dX8_reads_r57.2.2.2.1
theorem dX8_reads_62 : decode cX8_reads 62 = .ok (.putfield 171, 3) := dX8_reads_r57.2.2.2.2.1
theorem dX8_reads_65 : decode cX8_reads 65 = .ok (.aload_n 0, 1) := dX8_reads_r57.2.2.2.2.2.1
theorem dX8_reads_66 : decode cX8_reads 66 = .ok (.dup, 1) := dX8_reads_r57.2.2.2.2.2.2.1
theorem dX8_reads_67 : decode cX8_reads 67 = .ok (.getfield 162, 3) := dX8_reads_r57.2.2.2.2.2.2.2.1
theorem dX8_reads_70 : decode cX8_reads 70 = .ok (.iconst 1, 1) := dX8_reads_r57.2.2.2.2.2.2.2.2.1
theorem dX8_reads_71 : decode cX8_reads 71 = .ok (.iadd, 1) := dX8_reads_r57.2.2.2.2.2.2.2.2.2.1
theorem dX8_reads_72 : decode cX8_reads 72 = .ok (.putfield 162, 3) := dX8_reads_r57.2.2.2.2.2.2.2.2.2.2.1
theorem dX8_reads_75 : decode cX8_reads 75 = .ok (.iinc 1 1, 3) := dX8_reads_r57.2.2.2.2.2.2.2.2.2.2.2.1
theorem dX8_reads_78 : decode cX8_reads 78 = .ok (.goto (-55), 3) := dX8_reads_r57.2.2.2.2.2.2.2.2.2.2.2.2.1
theorem dX8_reads_81 : decode cX8_reads 81 = .ok (.iconst 1, 1) := dX8_reads_r57.2.2.2.2.2.2.2.2.2.2.2.2.2.1
theorem dX8_reads_82 : decode cX8_reads 82 = .ok (.ireturn, 1) := dX8_reads_r57.2.2.2.2.2.2.2.2.2.2.2.2.2.2.1
def wq_157_23 (Q : Bool → zf_Me → Prop) : Nat → Int32 → zf_Me → Prop
  | 0, _, _ => False
  | n + 1, v1, m => ((v1.toInt ≥ 2 → Q true m) ∧ (v1.toInt < 2 → wp_156 m (fun b5 m6 => ((b5 = false → Q true m6) ∧ (b5 = true → ((0 ≤ (Int32.toInt ((m6.1 63 29) + (m6.1 63 30))) ∧ (Int32.toInt ((m6.1 63 29) + (m6.1 63 30))) < (1280 : Int)) ∧ (∀ m7, m7 = zf_u m6 63 32 (((10 * (m6.1 63 32)) + (Int64.toInt32 (m6.2 74 (Int32.toInt ((m6.1 63 29) + (m6.1 63 30))).toNat))) - 48) → (∀ m9, m9 = zf_u m7 63 30 ((m7.1 63 30) + 1) → wq_157_23 Q n (v1 + 1) m9))))))))
theorem zq_157_23 {d : Nat} (hd : 1 ≤ d) {Q : Bool → zf_Me → Prop} : ∀ (n : Nat) (v1 : Int32) (m : zf_Me), wq_157_23 Q n v1 m → zf_W none 0 0 d zt_157 23 [some (.inr (.inr (1, 63))), some (.inl v1)] [] m (zf_B Q) := by
  obtain ⟨e, rfl⟩ : ∃ z, d = z + 1 := ⟨d - 1, by omega⟩
  intro n
  induction n with
  | zero =>
    intro v1 m h
    exact h.elim
  | succ n ih =>
    intro v1 m h
    unfold wq_157_23 at h
    refine zf_ld (pc' := 24) (v := .inl v1) dX8_reads_23 rfl (fun _ _ _ => rfl) rfl rfl rfl ?_
    refine zf_ic (v := 2) (pc' := 25) dX8_reads_24 rfl rfl ?_
    refine zf_icmp_ge (tgt := 81) (pc' := 28) dX8_reads_25 rfl rfl (fun g => ?_) (fun g => ?_)
    · replace h := h.1 g
      refine zf_ic (v := 1) (pc' := 82) dX8_reads_81 rfl rfl ?_
      exact zf_rb (b := true) dX8_reads_82 rfl h
    · replace h := h.2 g
      refine zf_ld (pc' := 29) (v := .inr (.inr (1, 63))) dX8_reads_28 rfl (fun _ _ _ => rfl) rfl rfl rfl ?_
      refine zf_iv (k := 156) (pc' := 32) (r := []) dX8_reads_29 rfl rfl rfl rfl (by decide) rfl rfl rfl (zr_156 (by omega) h) (zf_kB (fun b5 m6 h => ?_))
      refine zf_ib_eq (tgt := 81) (pc' := 35) dX8_reads_32 rfl rfl (fun g => ?_) (fun g => ?_)
      · replace h := h.1 g
        refine zf_ic (v := 1) (pc' := 82) dX8_reads_81 rfl rfl ?_
        exact zf_rb (b := true) dX8_reads_82 rfl h
      · replace h := h.2 g
        refine zf_ld (pc' := 36) (v := .inr (.inr (1, 63))) dX8_reads_35 rfl (fun _ _ _ => rfl) rfl rfl rfl ?_
        refine zf_bi (v := 10) (pc' := 38) dX8_reads_36 rfl rfl ?_
        refine zf_ld (pc' := 39) (v := .inr (.inr (1, 63))) dX8_reads_38 rfl (fun _ _ _ => rfl) rfl rfl rfl ?_
        refine zf_gfi (pc' := 42) dX8_reads_39 rfl rfl (by decide) rfl rfl ?_
        refine zf_in (pc' := 43) (S' := [.inl (10 * (m6.1 63 32)), .inr (.inr (1, 63))]) dX8_reads_42 rfl (fun _ _ _ => rfl) ?_
        refine zf_ld (pc' := 44) (v := .inr (.inr (1, 63))) dX8_reads_43 rfl (fun _ _ _ => rfl) rfl rfl rfl ?_
        refine zf_gfr (pc' := 47) (b := 74) dX8_reads_44 rfl rfl (by decide) rfl rfl ?_
        refine zf_ld (pc' := 48) (v := .inr (.inr (1, 63))) dX8_reads_47 rfl (fun _ _ _ => rfl) rfl rfl rfl ?_
        refine zf_gfi (pc' := 51) dX8_reads_48 rfl rfl (by decide) rfl rfl ?_
        refine zf_ld (pc' := 52) (v := .inr (.inr (1, 63))) dX8_reads_51 rfl (fun _ _ _ => rfl) rfl rfl rfl ?_
        refine zf_gfi (pc' := 55) dX8_reads_52 rfl rfl (by decide) rfl rfl ?_
        refine zf_in (pc' := 56) (S' := [.inl ((m6.1 63 29) + (m6.1 63 30)), .inr (.inr (1, 74)), .inl (10 * (m6.1 63 32)), .inr (.inr (1, 63))]) dX8_reads_55 rfl (fun _ _ _ => rfl) ?_
        refine zf_lal (pc' := 57) dX8_reads_56 rfl (⟨by decide, rfl⟩ : zf_larr 74 1280).1 (⟨by decide, rfl⟩ : zf_larr 74 1280).2 h.1 rfl ?_
        replace h := h.2
        refine zf_in (pc' := 58) (S' := [.inl (Int64.toInt32 (m6.2 74 (Int32.toInt ((m6.1 63 29) + (m6.1 63 30))).toNat)), .inl (10 * (m6.1 63 32)), .inr (.inr (1, 63))]) dX8_reads_57 rfl (fun _ _ _ => rfl) ?_
        refine zf_in (pc' := 59) (S' := [.inl ((10 * (m6.1 63 32)) + (Int64.toInt32 (m6.2 74 (Int32.toInt ((m6.1 63 29) + (m6.1 63 30))).toNat))), .inr (.inr (1, 63))]) dX8_reads_58 rfl (fun _ _ _ => rfl) ?_
        refine zf_bi (v := 48) (pc' := 61) dX8_reads_59 rfl rfl ?_
        refine zf_in (pc' := 62) (S' := [.inl (((10 * (m6.1 63 32)) + (Int64.toInt32 (m6.2 74 (Int32.toInt ((m6.1 63 29) + (m6.1 63 30))).toNat))) - 48), .inr (.inr (1, 63))]) dX8_reads_61 rfl (fun _ _ _ => rfl) ?_
        refine zf_pf (pc' := 65) dX8_reads_62 rfl rfl (by decide) rfl rfl rfl (fun m7 e8 => ?_)
        replace h := h m7 e8
        refine zf_ld (pc' := 66) (v := .inr (.inr (1, 63))) dX8_reads_65 rfl (fun _ _ _ => rfl) rfl rfl rfl ?_
        refine zf_in (pc' := 67) (S' := [.inr (.inr (1, 63)), .inr (.inr (1, 63))]) dX8_reads_66 rfl (fun _ _ _ => rfl) ?_
        refine zf_gfi (pc' := 70) dX8_reads_67 rfl rfl (by decide) rfl rfl ?_
        refine zf_ic (v := 1) (pc' := 71) dX8_reads_70 rfl rfl ?_
        refine zf_in (pc' := 72) (S' := [.inl ((m7.1 63 30) + 1), .inr (.inr (1, 63))]) dX8_reads_71 rfl (fun _ _ _ => rfl) ?_
        refine zf_pf (pc' := 75) dX8_reads_72 rfl rfl (by decide) rfl rfl rfl (fun m9 e10 => ?_)
        replace h := h m9 e10
        refine zf_ii (y := (v1 + 1)) (L2 := [some (.inr (.inr (1, 63))), some (.inl (v1 + 1))]) (pc' := 78) dX8_reads_75 rfl rfl rfl rfl rfl ?_
        refine zf_goto (tgt := 23) dX8_reads_78 rfl ?_
        exact zf_lo (ih _ _ h) ⟨rfl, rfl, trivial⟩
def wp_157 (m : zf_Me) (Q : Bool → zf_Me → Prop) : Prop := (∀ m1, m1 = zf_u m 63 32 0 → wp_156 m1 (fun b3 m4 => ((b3 = true → (∃ n23, wq_157_23 Q n23 0 m4)) ∧ (b3 = false → wp_153 (m4.1 63 30) m4 (fun b11 m12 => Q b11 m12)))))
theorem zr_157 {d : Nat} (hd : 1 ≤ d) {Q : Bool → zf_Me → Prop} {m : zf_Me} (h : wp_157 m Q) : zf_M d 157 [.inr (.inr (1, 63))] m (zf_B Q) := by
  obtain ⟨e, rfl⟩ : ∃ z, d = z + 1 := ⟨d - 1, by omega⟩
  unfold wp_157 at h
  refine zf_M_of (Nat.le_of_ble_eq_true rfl) zm_157 (L := [some (.inr (.inr (1, 63))), none]) rfl ?_
  refine zf_ld (pc' := 1) (v := .inr (.inr (1, 63))) dX8_reads_0 rfl (fun _ _ _ => rfl) rfl rfl rfl ?_
  refine zf_ic (v := 0) (pc' := 2) dX8_reads_1 rfl rfl ?_
  refine zf_pf (pc' := 5) dX8_reads_2 rfl rfl (by decide) rfl rfl rfl (fun m1 e2 => ?_)
  replace h := h m1 e2
  refine zf_ld (pc' := 6) (v := .inr (.inr (1, 63))) dX8_reads_5 rfl (fun _ _ _ => rfl) rfl rfl rfl ?_
  refine zf_iv (k := 156) (pc' := 9) (r := []) dX8_reads_6 rfl rfl rfl rfl (by decide) rfl rfl rfl (zr_156 (by omega) h) (zf_kB (fun b3 m4 h => ?_))
  refine zf_ib_ne (tgt := 21) (pc' := 12) dX8_reads_9 rfl rfl (fun g => ?_) (fun g => ?_)
  · replace h := h.1 g
    refine zf_ic (v := 0) (pc' := 22) dX8_reads_21 rfl rfl ?_
    refine zf_st (pc' := 23) (L2 := [some (.inr (.inr (1, 63))), some (.inl 0)]) dX8_reads_22 rfl (fun _ _ _ => rfl) rfl rfl rfl rfl rfl rfl ?_
    obtain ⟨n23, h⟩ := h
    exact zf_lo (zq_157_23 (by omega) n23 _ _ h) ⟨rfl, rfl, trivial⟩
  · replace h := h.2 g
    refine zf_ld (pc' := 13) (v := .inr (.inr (1, 63))) dX8_reads_12 rfl (fun _ _ _ => rfl) rfl rfl rfl ?_
    refine zf_ld (pc' := 14) (v := .inr (.inr (1, 63))) dX8_reads_13 rfl (fun _ _ _ => rfl) rfl rfl rfl ?_
    refine zf_gfi (pc' := 17) dX8_reads_14 rfl rfl (by decide) rfl rfl ?_
    refine zf_iv (k := 153) (pc' := 20) (r := []) dX8_reads_17 rfl rfl rfl rfl (by decide) rfl rfl rfl (zr_153 (by omega) h) (zf_kB (fun b11 m12 h => ?_))
    exact zf_rb (b := b11) dX8_reads_20 rfl h
def zt_166 : zx_MT := (8, yX8_mayCarry, cX8_mayCarry, 3, (some FieldType.boolean), 1, 0)
theorem zm_166 : zx_m 166 = zt_166 := rfl
theorem dX8_mayCarry_r0 : zdcP cX8_mayCarry 0 [(.aload_n 0, 1), (.iload_n 1, 1), (.invokevirtual 119, 3), (.ifCond .eq 42, 3), (.aload_n 0, 1), (.getfield 207, 3), (.aload_n 0, 1), (.getfield 108, 3), (.if_icmp .ge 31, 3), (.aload_n 0, 1), (.getfield 53, 3), (.iload_n 1, 1), (.iaload, 1), (.aload_n 0, 1), (.iload_n 1, 1), (.aload_n 0, 1)] := zdcA_ok (by decide +kernel)
theorem dX8_mayCarry_0 : decode cX8_mayCarry 0 = .ok (.aload_n 0, 1) := dX8_mayCarry_r0.1
theorem dX8_mayCarry_1 : decode cX8_mayCarry 1 = .ok (.iload_n 1, 1) := dX8_mayCarry_r0.2.1
theorem dX8_mayCarry_2 : decode cX8_mayCarry 2 = .ok (.invokevirtual 119, 3) := dX8_mayCarry_r0.2.2.1
theorem dX8_mayCarry_5 : decode cX8_mayCarry 5 = .ok (.ifCond .eq 42, 3) := dX8_mayCarry_r0.2.2.2.1
theorem dX8_mayCarry_8 : decode cX8_mayCarry 8 = .ok (.aload_n 0, 1) := dX8_mayCarry_r0.2.2.2.2.1
theorem dX8_mayCarry_9 : decode cX8_mayCarry 9 = .ok (.getfield 207, 3) := dX8_mayCarry_r0.2.2.2.2.2.1
theorem dX8_mayCarry_12 : decode cX8_mayCarry 12 = .ok (.aload_n 0, 1) := dX8_mayCarry_r0.2.2.2.2.2.2.1
theorem dX8_mayCarry_13 : decode cX8_mayCarry 13 = .ok (.getfield 108, 3) := dX8_mayCarry_r0.2.2.2.2.2.2.2.1
theorem dX8_mayCarry_16 : decode cX8_mayCarry 16 = .ok (.if_icmp .ge 31, 3) := dX8_mayCarry_r0.2.2.2.2.2.2.2.2.1
theorem dX8_mayCarry_19 : decode cX8_mayCarry 19 = .ok (.aload_n 0, 1) := dX8_mayCarry_r0.2.2.2.2.2.2.2.2.2.1
theorem dX8_mayCarry_20 : decode cX8_mayCarry 20 = .ok (.getfield 53, 3) := dX8_mayCarry_r0.2.2.2.2.2.2.2.2.2.2.1
theorem dX8_mayCarry_23 : decode cX8_mayCarry 23 = .ok (.iload_n 1, 1) := dX8_mayCarry_r0.2.2.2.2.2.2.2.2.2.2.2.1
theorem dX8_mayCarry_24 : decode cX8_mayCarry 24 = .ok (.iaload, 1) := dX8_mayCarry_r0.2.2.2.2.2.2.2.2.2.2.2.2.1
theorem dX8_mayCarry_25 : decode cX8_mayCarry 25 = .ok (.aload_n 0, 1) := dX8_mayCarry_r0.2.2.2.2.2.2.2.2.2.2.2.2.2.1
theorem dX8_mayCarry_26 : decode cX8_mayCarry 26 = .ok (.iload_n 1, 1) := dX8_mayCarry_r0.2.2.2.2.2.2.2.2.2.2.2.2.2.2.1
theorem dX8_mayCarry_27 : decode cX8_mayCarry 27 = .ok (.aload_n 0, 1) := dX8_mayCarry_r0.2.2.2.2.2.2.2.2.2.2.2.2.2.2.2.1
theorem dX8_mayCarry_r28 : zdcP cX8_mayCarry 28 [(.getfield 41, 3), (.aload_n 0, 1), (.getfield 207, 3), (.iaload, 1), (.invokevirtual 126, 3), (.iadd, 1), (.aload_n 0, 1), (.getfield 28, 3), (.if_icmp .le 5, 3), (.iconst 0, 1), (.ireturn, 1), (.aload_n 0, 1), (.getfield 47, 3), (.iload_n 1, 1), (.iaload, 1), (.istore_n 2, 1)] := zdcA_ok (by decide +kernel)
theorem dX8_mayCarry_28 : decode cX8_mayCarry 28 = .ok (.getfield 41, 3) := dX8_mayCarry_r28.1
theorem dX8_mayCarry_31 : decode cX8_mayCarry 31 = .ok (.aload_n 0, 1) := dX8_mayCarry_r28.2.1
theorem dX8_mayCarry_32 : decode cX8_mayCarry 32 = .ok (.getfield 207, 3) := dX8_mayCarry_r28.2.2.1
theorem dX8_mayCarry_35 : decode cX8_mayCarry 35 = .ok (.iaload, 1) := dX8_mayCarry_r28.2.2.2.1
theorem dX8_mayCarry_36 : decode cX8_mayCarry 36 = .ok (.invokevirtual 126, 3) := dX8_mayCarry_r28.2.2.2.2.1
theorem dX8_mayCarry_39 : decode cX8_mayCarry 39 = .ok (.iadd, 1) := dX8_mayCarry_r28.2.2.2.2.2.1
theorem dX8_mayCarry_40 : decode cX8_mayCarry 40 = .ok (.aload_n 0, 1) := dX8_mayCarry_r28.2.2.2.2.2.2.1
theorem dX8_mayCarry_41 : decode cX8_mayCarry 41 = .ok (.getfield 28, 3) := dX8_mayCarry_r28.2.2.2.2.2.2.2.1
theorem dX8_mayCarry_44 : decode cX8_mayCarry 44 = .ok (.if_icmp .le 5, 3) := dX8_mayCarry_r28.2.2.2.2.2.2.2.2.1
theorem dX8_mayCarry_47 : decode cX8_mayCarry 47 = .ok (.iconst 0, 1) := dX8_mayCarry_r28.2.2.2.2.2.2.2.2.2.1
theorem dX8_mayCarry_48 : decode cX8_mayCarry 48 = .ok (.ireturn, 1) := dX8_mayCarry_r28.2.2.2.2.2.2.2.2.2.2.1
theorem dX8_mayCarry_49 : decode cX8_mayCarry 49 = .ok (.aload_n 0, 1) := dX8_mayCarry_r28.2.2.2.2.2.2.2.2.2.2.2.1
theorem dX8_mayCarry_50 : decode cX8_mayCarry 50 = .ok (.getfield 47, 3) := dX8_mayCarry_r28.2.2.2.2.2.2.2.2.2.2.2.2.1
theorem dX8_mayCarry_53 : decode cX8_mayCarry 53 = .ok (.iload_n 1, 1) := dX8_mayCarry_r28.2.2.2.2.2.2.2.2.2.2.2.2.2.1
theorem dX8_mayCarry_54 : decode cX8_mayCarry 54 = .ok (.iaload, 1) := dX8_mayCarry_r28.2.2.2.2.2.2.2.2.2.2.2.2.2.2.1
theorem dX8_mayCarry_55 : decode cX8_mayCarry 55 = .ok (.istore_n 2, 1) := dX8_mayCarry_r28.2.2.2.2.2.2.2.2.2.2.2.2.2.2.2.1
theorem dX8_mayCarry_r56 : zdcP cX8_mayCarry 56 [(.iload_n 2, 1), (.iconst 2, 1), (.if_icmp .eq 8, 3), (.iload_n 2, 1), (.iconst 5, 1), (.if_icmp .ne 10, 3), (.aload_n 0, 1), (.invokevirtual 122, 3), (.ifCond .eq 26, 3), (.iload_n 2, 1), (.bipush 6, 2), (.if_icmp .ne 16, 3), (.aload_n 0, 1), (.getfield 41, 3), (.aload_n 0, 1), (.getfield 207, 3)] := zdcA_ok (by decide +kernel)
theorem dX8_mayCarry_56 : decode cX8_mayCarry 56 = .ok (.iload_n 2, 1) := dX8_mayCarry_r56.1
theorem dX8_mayCarry_57 : decode cX8_mayCarry 57 = .ok (.iconst 2, 1) := dX8_mayCarry_r56.2.1
theorem dX8_mayCarry_58 : decode cX8_mayCarry 58 = .ok (.if_icmp .eq 8, 3) := dX8_mayCarry_r56.2.2.1
theorem dX8_mayCarry_61 : decode cX8_mayCarry 61 = .ok (.iload_n 2, 1) := dX8_mayCarry_r56.2.2.2.1
theorem dX8_mayCarry_62 : decode cX8_mayCarry 62 = .ok (.iconst 5, 1) := dX8_mayCarry_r56.2.2.2.2.1
theorem dX8_mayCarry_63 : decode cX8_mayCarry 63 = .ok (.if_icmp .ne 10, 3) := dX8_mayCarry_r56.2.2.2.2.2.1
theorem dX8_mayCarry_66 : decode cX8_mayCarry 66 = .ok (.aload_n 0, 1) := dX8_mayCarry_r56.2.2.2.2.2.2.1
theorem dX8_mayCarry_67 : decode cX8_mayCarry 67 = .ok (.invokevirtual 122, 3) := dX8_mayCarry_r56.2.2.2.2.2.2.2.1
theorem dX8_mayCarry_70 : decode cX8_mayCarry 70 = .ok (.ifCond .eq 26, 3) := dX8_mayCarry_r56.2.2.2.2.2.2.2.2.1
theorem dX8_mayCarry_73 : decode cX8_mayCarry 73 = .ok (.iload_n 2, 1) := dX8_mayCarry_r56.2.2.2.2.2.2.2.2.2.1
theorem dX8_mayCarry_74 : decode cX8_mayCarry 74 = .ok (.bipush 6, 2) := dX8_mayCarry_r56.2.2.2.2.2.2.2.2.2.2.1
theorem dX8_mayCarry_76 : decode cX8_mayCarry 76 = .ok (.if_icmp .ne 16, 3) := dX8_mayCarry_r56.2.2.2.2.2.2.2.2.2.2.2.1
theorem dX8_mayCarry_79 : decode cX8_mayCarry 79 = .ok (.aload_n 0, 1) := dX8_mayCarry_r56.2.2.2.2.2.2.2.2.2.2.2.2.1
theorem dX8_mayCarry_80 : decode cX8_mayCarry 80 = .ok (.getfield 41, 3) := dX8_mayCarry_r56.2.2.2.2.2.2.2.2.2.2.2.2.2.1
theorem dX8_mayCarry_83 : decode cX8_mayCarry 83 = .ok (.aload_n 0, 1) := dX8_mayCarry_r56.2.2.2.2.2.2.2.2.2.2.2.2.2.2.1
theorem dX8_mayCarry_84 : decode cX8_mayCarry 84 = .ok (.getfield 207, 3) := dX8_mayCarry_r56.2.2.2.2.2.2.2.2.2.2.2.2.2.2.2.1
theorem dX8_mayCarry_r87 : zdcP cX8_mayCarry 87 [(.iaload, 1), (.iconst 1, 1), (.if_icmp .gt 7, 3), (.iconst 1, 1), (.goto 4, 3), (.iconst 0, 1), (.ireturn, 1)] := zdcA_ok (by decide +kernel)
theorem dX8_mayCarry_87 : decode cX8_mayCarry 87 = .ok (.iaload, 1) := dX8_mayCarry_r87.1
theorem dX8_mayCarry_88 : decode cX8_mayCarry 88 = .ok (.iconst 1, 1) := dX8_mayCarry_r87.2.1
theorem dX8_mayCarry_89 : decode cX8_mayCarry 89 = .ok (.if_icmp .gt 7, 3) := dX8_mayCarry_r87.2.2.1
theorem dX8_mayCarry_92 : decode cX8_mayCarry 92 = .ok (.iconst 1, 1) := dX8_mayCarry_r87.2.2.2.1
theorem dX8_mayCarry_93 : decode cX8_mayCarry 93 = .ok (.goto 4, 3) := dX8_mayCarry_r87.2.2.2.2.1
theorem dX8_mayCarry_96 : decode cX8_mayCarry 96 = .ok (.iconst 0, 1) := dX8_mayCarry_r87.2.2.2.2.2.1
theorem dX8_mayCarry_97 : decode cX8_mayCarry 97 = .ok (.ireturn, 1) := dX8_mayCarry_r87.2.2.2.2.2.2.1
def wq_166_73 (v1 : Int32) (v2 : Int32) (m : zf_Me) (Q : Bool → zf_Me → Prop) : Prop := ((¬ v2.toInt = 6 → Q true m) ∧ (v2.toInt = 6 → ((0 ≤ (Int32.toInt (m.1 63 10)) ∧ (Int32.toInt (m.1 63 10)) < (24 : Int)) ∧ ((((m.1 65 (Int32.toInt (m.1 63 10)).toNat)).toInt > 1 → Q false m) ∧ (((m.1 65 (Int32.toInt (m.1 63 10)).toNat)).toInt ≤ 1 → Q true m)))))
theorem zq_166_73 {d : Nat} (hd : 1 ≤ d) {v1 : Int32} {Q : Bool → zf_Me → Prop} {v2 : Int32} {m : zf_Me} (h : wq_166_73 v1 v2 m Q) : zf_W none 0 0 d zt_166 73 [some (.inr (.inr (1, 63))), none, some (.inl v2)] [] m (zf_B Q) := by
  unfold wq_166_73 at h
  refine zf_ld (pc' := 74) (v := .inl v2) dX8_mayCarry_73 rfl (fun _ _ _ => rfl) rfl rfl rfl ?_
  refine zf_bi (v := 6) (pc' := 76) dX8_mayCarry_74 rfl rfl ?_
  refine zf_icmp_ne (tgt := 92) (pc' := 79) dX8_mayCarry_76 rfl rfl (fun g => ?_) (fun g => ?_)
  · replace h := h.1 g
    refine zf_ic (v := 1) (pc' := 93) dX8_mayCarry_92 rfl rfl ?_
    refine zf_goto (tgt := 97) dX8_mayCarry_93 rfl ?_
    exact zf_rb (b := true) dX8_mayCarry_97 rfl h
  · replace h := h.2 g
    refine zf_ld (pc' := 80) (v := .inr (.inr (1, 63))) dX8_mayCarry_79 rfl (fun _ _ _ => rfl) rfl rfl rfl ?_
    refine zf_gfr (pc' := 83) (b := 65) dX8_mayCarry_80 rfl rfl (by decide) rfl rfl ?_
    refine zf_ld (pc' := 84) (v := .inr (.inr (1, 63))) dX8_mayCarry_83 rfl (fun _ _ _ => rfl) rfl rfl rfl ?_
    refine zf_gfi (pc' := 87) dX8_mayCarry_84 rfl rfl (by decide) rfl rfl ?_
    refine zf_ial (pc' := 88) dX8_mayCarry_87 rfl (⟨by decide, rfl⟩ : zf_arr 65 24).1 (⟨by decide, rfl⟩ : zf_arr 65 24).2 h.1 rfl ?_
    replace h := h.2
    refine zf_ic (v := 1) (pc' := 89) dX8_mayCarry_88 rfl rfl ?_
    refine zf_icmp_gt (tgt := 96) (pc' := 92) dX8_mayCarry_89 rfl rfl (fun g => ?_) (fun g => ?_)
    · replace h := h.1 g
      refine zf_ic (v := 0) (pc' := 97) dX8_mayCarry_96 rfl rfl ?_
      exact zf_rb (b := false) dX8_mayCarry_97 rfl h
    · replace h := h.2 g
      refine zf_ic (v := 1) (pc' := 93) dX8_mayCarry_92 rfl rfl ?_
      refine zf_goto (tgt := 97) dX8_mayCarry_93 rfl ?_
      exact zf_rb (b := true) dX8_mayCarry_97 rfl h
def wq_166_66 (v1 : Int32) (v2 : Int32) (m : zf_Me) (Q : Bool → zf_Me → Prop) : Prop := wp_164 m (fun b5 m6 => ((b5 = false → Q false m6) ∧ (b5 = true → wq_166_73 v1 v2 m6 Q)))
theorem zq_166_66 {d : Nat} (hd : 1 ≤ d) {v1 : Int32} {Q : Bool → zf_Me → Prop} {v2 : Int32} {m : zf_Me} (h : wq_166_66 v1 v2 m Q) : zf_W none 0 0 d zt_166 66 [some (.inr (.inr (1, 63))), none, some (.inl v2)] [] m (zf_B Q) := by
  obtain ⟨e, rfl⟩ : ∃ z, d = z + 1 := ⟨d - 1, by omega⟩
  unfold wq_166_66 at h
  refine zf_ld (pc' := 67) (v := .inr (.inr (1, 63))) dX8_mayCarry_66 rfl (fun _ _ _ => rfl) rfl rfl rfl ?_
  refine zf_iv (k := 164) (pc' := 70) (r := []) dX8_mayCarry_67 rfl rfl rfl rfl (by decide) rfl rfl rfl (zr_164 (by omega) h) (zf_kB (fun b5 m6 h => ?_))
  refine zf_ib_eq (tgt := 96) (pc' := 73) dX8_mayCarry_70 rfl rfl (fun g => ?_) (fun g => ?_)
  · replace h := h.1 g
    refine zf_ic (v := 0) (pc' := 97) dX8_mayCarry_96 rfl rfl ?_
    exact zf_rb (b := false) dX8_mayCarry_97 rfl h
  · replace h := h.2 g
    exact zf_lo (zq_166_73 (by omega) h) ⟨rfl, rfl, trivial⟩
def wp_166 (v1 : Int32) (m : zf_Me) (Q : Bool → zf_Me → Prop) : Prop := wp_128 v1 m (fun b1 m2 => ((b1 = false → Q false m2) ∧ (b1 = true → ((((m2.1 63 10)).toInt ≥ ((m2.1 63 0)).toInt → Q false m2) ∧ (((m2.1 63 10)).toInt < ((m2.1 63 0)).toInt → ((0 ≤ (Int32.toInt v1) ∧ (Int32.toInt v1) < (6 : Int)) ∧ ((0 ≤ (Int32.toInt (m2.1 63 10)) ∧ (Int32.toInt (m2.1 63 10)) < (24 : Int)) ∧ wp_165 v1 (m2.1 65 (Int32.toInt (m2.1 63 10)).toNat) m2 (fun x3 m4 => (((((m2.1 69 (Int32.toInt v1).toNat) + x3)).toInt ≤ ((m4.1 63 9)).toInt → ((0 ≤ (Int32.toInt v1) ∧ (Int32.toInt v1) < (6 : Int)) ∧ ((((m4.1 67 (Int32.toInt v1).toNat)).toInt = 2 → wq_166_66 v1 (m4.1 67 (Int32.toInt v1).toNat) m4 Q) ∧ (¬ ((m4.1 67 (Int32.toInt v1).toNat)).toInt = 2 → ((¬ ((m4.1 67 (Int32.toInt v1).toNat)).toInt = 5 → wq_166_73 v1 (m4.1 67 (Int32.toInt v1).toNat) m4 Q) ∧ (((m4.1 67 (Int32.toInt v1).toNat)).toInt = 5 → wq_166_66 v1 (m4.1 67 (Int32.toInt v1).toNat) m4 Q)))))) ∧ ((((m2.1 69 (Int32.toInt v1).toNat) + x3)).toInt > ((m4.1 63 9)).toInt → Q false m4))))))))))
theorem zr_166 {d : Nat} (hd : 1 ≤ d) {v1 : Int32} {Q : Bool → zf_Me → Prop} {m : zf_Me} (h : wp_166 v1 m Q) : zf_M d 166 [.inr (.inr (1, 63)), .inl v1] m (zf_B Q) := by
  obtain ⟨e, rfl⟩ : ∃ z, d = z + 1 := ⟨d - 1, by omega⟩
  unfold wp_166 at h
  refine zf_M_of (Nat.le_of_ble_eq_true rfl) zm_166 (L := [some (.inr (.inr (1, 63))), some (.inl v1), none]) rfl ?_
  refine zf_ld (pc' := 1) (v := .inr (.inr (1, 63))) dX8_mayCarry_0 rfl (fun _ _ _ => rfl) rfl rfl rfl ?_
  refine zf_ld (pc' := 2) (v := .inl v1) dX8_mayCarry_1 rfl (fun _ _ _ => rfl) rfl rfl rfl ?_
  refine zf_iv (k := 128) (pc' := 5) (r := []) dX8_mayCarry_2 rfl rfl rfl rfl (by decide) rfl rfl rfl (zr_128 (by omega) h) (zf_kB (fun b1 m2 h => ?_))
  refine zf_ib_eq (tgt := 47) (pc' := 8) dX8_mayCarry_5 rfl rfl (fun g => ?_) (fun g => ?_)
  · replace h := h.1 g
    refine zf_ic (v := 0) (pc' := 48) dX8_mayCarry_47 rfl rfl ?_
    exact zf_rb (b := false) dX8_mayCarry_48 rfl h
  · replace h := h.2 g
    refine zf_ld (pc' := 9) (v := .inr (.inr (1, 63))) dX8_mayCarry_8 rfl (fun _ _ _ => rfl) rfl rfl rfl ?_
    refine zf_gfi (pc' := 12) dX8_mayCarry_9 rfl rfl (by decide) rfl rfl ?_
    refine zf_ld (pc' := 13) (v := .inr (.inr (1, 63))) dX8_mayCarry_12 rfl (fun _ _ _ => rfl) rfl rfl rfl ?_
    refine zf_gfi (pc' := 16) dX8_mayCarry_13 rfl rfl (by decide) rfl rfl ?_
    refine zf_icmp_ge (tgt := 47) (pc' := 19) dX8_mayCarry_16 rfl rfl (fun g => ?_) (fun g => ?_)
    · replace h := h.1 g
      refine zf_ic (v := 0) (pc' := 48) dX8_mayCarry_47 rfl rfl ?_
      exact zf_rb (b := false) dX8_mayCarry_48 rfl h
    · replace h := h.2 g
      refine zf_ld (pc' := 20) (v := .inr (.inr (1, 63))) dX8_mayCarry_19 rfl (fun _ _ _ => rfl) rfl rfl rfl ?_
      refine zf_gfr (pc' := 23) (b := 69) dX8_mayCarry_20 rfl rfl (by decide) rfl rfl ?_
      refine zf_ld (pc' := 24) (v := .inl v1) dX8_mayCarry_23 rfl (fun _ _ _ => rfl) rfl rfl rfl ?_
      refine zf_ial (pc' := 25) dX8_mayCarry_24 rfl (⟨by decide, rfl⟩ : zf_arr 69 6).1 (⟨by decide, rfl⟩ : zf_arr 69 6).2 h.1 rfl ?_
      replace h := h.2
      refine zf_ld (pc' := 26) (v := .inr (.inr (1, 63))) dX8_mayCarry_25 rfl (fun _ _ _ => rfl) rfl rfl rfl ?_
      refine zf_ld (pc' := 27) (v := .inl v1) dX8_mayCarry_26 rfl (fun _ _ _ => rfl) rfl rfl rfl ?_
      refine zf_ld (pc' := 28) (v := .inr (.inr (1, 63))) dX8_mayCarry_27 rfl (fun _ _ _ => rfl) rfl rfl rfl ?_
      refine zf_gfr (pc' := 31) (b := 65) dX8_mayCarry_28 rfl rfl (by decide) rfl rfl ?_
      refine zf_ld (pc' := 32) (v := .inr (.inr (1, 63))) dX8_mayCarry_31 rfl (fun _ _ _ => rfl) rfl rfl rfl ?_
      refine zf_gfi (pc' := 35) dX8_mayCarry_32 rfl rfl (by decide) rfl rfl ?_
      refine zf_ial (pc' := 36) dX8_mayCarry_35 rfl (⟨by decide, rfl⟩ : zf_arr 65 24).1 (⟨by decide, rfl⟩ : zf_arr 65 24).2 h.1 rfl ?_
      replace h := h.2
      refine zf_iv (k := 165) (pc' := 39) (r := [.inl (m2.1 69 (Int32.toInt v1).toNat)]) dX8_mayCarry_36 rfl rfl rfl rfl (by decide) rfl rfl rfl (zr_165 (by omega) h) (zf_kI (fun x3 m4 h => ?_))
      refine zf_in (pc' := 40) (S' := [.inl ((m2.1 69 (Int32.toInt v1).toNat) + x3)]) dX8_mayCarry_39 rfl (fun _ _ _ => rfl) ?_
      refine zf_ld (pc' := 41) (v := .inr (.inr (1, 63))) dX8_mayCarry_40 rfl (fun _ _ _ => rfl) rfl rfl rfl ?_
      refine zf_gfi (pc' := 44) dX8_mayCarry_41 rfl rfl (by decide) rfl rfl ?_
      refine zf_icmp_le (tgt := 49) (pc' := 47) dX8_mayCarry_44 rfl rfl (fun g => ?_) (fun g => ?_)
      · replace h := h.1 g
        refine zf_ld (pc' := 50) (v := .inr (.inr (1, 63))) dX8_mayCarry_49 rfl (fun _ _ _ => rfl) rfl rfl rfl ?_
        refine zf_gfr (pc' := 53) (b := 67) dX8_mayCarry_50 rfl rfl (by decide) rfl rfl ?_
        refine zf_ld (pc' := 54) (v := .inl v1) dX8_mayCarry_53 rfl (fun _ _ _ => rfl) rfl rfl rfl ?_
        refine zf_ial (pc' := 55) dX8_mayCarry_54 rfl (⟨by decide, rfl⟩ : zf_arr 67 6).1 (⟨by decide, rfl⟩ : zf_arr 67 6).2 h.1 rfl ?_
        replace h := h.2
        refine zf_st (pc' := 56) (L2 := [some (.inr (.inr (1, 63))), some (.inl v1), some (.inl (m4.1 67 (Int32.toInt v1).toNat))]) dX8_mayCarry_55 rfl (fun _ _ _ => rfl) rfl rfl rfl rfl rfl rfl ?_
        refine zf_ld (pc' := 57) (v := .inl (m4.1 67 (Int32.toInt v1).toNat)) dX8_mayCarry_56 rfl (fun _ _ _ => rfl) rfl rfl rfl ?_
        refine zf_ic (v := 2) (pc' := 58) dX8_mayCarry_57 rfl rfl ?_
        refine zf_icmp_eq (tgt := 66) (pc' := 61) dX8_mayCarry_58 rfl rfl (fun g => ?_) (fun g => ?_)
        · replace h := h.1 g
          exact zf_lo (zq_166_66 (by omega) h) ⟨rfl, rfl, trivial⟩
        · replace h := h.2 g
          refine zf_ld (pc' := 62) (v := .inl (m4.1 67 (Int32.toInt v1).toNat)) dX8_mayCarry_61 rfl (fun _ _ _ => rfl) rfl rfl rfl ?_
          refine zf_ic (v := 5) (pc' := 63) dX8_mayCarry_62 rfl rfl ?_
          refine zf_icmp_ne (tgt := 73) (pc' := 66) dX8_mayCarry_63 rfl rfl (fun g => ?_) (fun g => ?_)
          · replace h := h.1 g
            exact zf_lo (zq_166_73 (by omega) h) ⟨rfl, rfl, trivial⟩
          · replace h := h.2 g
            exact zf_lo (zq_166_66 (by omega) h) ⟨rfl, rfl, trivial⟩
      · replace h := h.2 g
        refine zf_ic (v := 0) (pc' := 48) dX8_mayCarry_47 rfl rfl ?_
        exact zf_rb (b := false) dX8_mayCarry_48 rfl h
def zt_167 : zx_MT := (8, yX8_mayBe, cX8_mayBe, 2, (some FieldType.boolean), 1, 0)
theorem zm_167 : zx_m 167 = zt_167 := rfl
theorem dX8_mayBe_r0 : zdcP cX8_mayBe 0 [(.iload_n 1, 1), (.bipush 6, 2), (.if_icmp .ge 9, 3), (.aload_n 0, 1), (.iload_n 1, 1), (.invokevirtual 220, 3), (.ireturn, 1), (.iload_n 1, 1), (.bipush 9, 2), (.if_icmp .ne 41, 3), (.aload_n 0, 1), (.getfield 210, 3), (.sipush 900, 3), (.if_icmp .gt 29, 3), (.aload_n 0, 1), (.getfield 207, 3)] := zdcA_ok (by decide +kernel)
theorem dX8_mayBe_0 : decode cX8_mayBe 0 = .ok (.iload_n 1, 1) := dX8_mayBe_r0.1
theorem dX8_mayBe_1 : decode cX8_mayBe 1 = .ok (.bipush 6, 2) := dX8_mayBe_r0.2.1
theorem dX8_mayBe_3 : decode cX8_mayBe 3 = .ok (.if_icmp .ge 9, 3) := dX8_mayBe_r0.2.2.1
theorem dX8_mayBe_6 : decode cX8_mayBe 6 = .ok (.aload_n 0, 1) := dX8_mayBe_r0.2.2.2.1
theorem dX8_mayBe_7 : decode cX8_mayBe 7 = .ok (.iload_n 1, 1) := dX8_mayBe_r0.2.2.2.2.1
theorem dX8_mayBe_8 : decode cX8_mayBe 8 = .ok (.invokevirtual 220, 3) := dX8_mayBe_r0.2.2.2.2.2.1
theorem dX8_mayBe_11 : decode cX8_mayBe 11 = .ok (.ireturn, 1) := dX8_mayBe_r0.2.2.2.2.2.2.1
theorem dX8_mayBe_12 : decode cX8_mayBe 12 = .ok (.iload_n 1, 1) := dX8_mayBe_r0.2.2.2.2.2.2.2.1
theorem dX8_mayBe_13 : decode cX8_mayBe 13 = .ok (.bipush 9, 2) := dX8_mayBe_r0.2.2.2.2.2.2.2.2.1
theorem dX8_mayBe_15 : decode cX8_mayBe 15 = .ok (.if_icmp .ne 41, 3) := dX8_mayBe_r0.2.2.2.2.2.2.2.2.2.1
theorem dX8_mayBe_18 : decode cX8_mayBe 18 = .ok (.aload_n 0, 1) := dX8_mayBe_r0.2.2.2.2.2.2.2.2.2.2.1
theorem dX8_mayBe_19 : decode cX8_mayBe 19 = .ok (.getfield 210, 3) := dX8_mayBe_r0.2.2.2.2.2.2.2.2.2.2.2.1
theorem dX8_mayBe_22 : decode cX8_mayBe 22 = .ok (.sipush 900, 3) := dX8_mayBe_r0.2.2.2.2.2.2.2.2.2.2.2.2.1
theorem dX8_mayBe_25 : decode cX8_mayBe 25 = .ok (.if_icmp .gt 29, 3) := dX8_mayBe_r0.2.2.2.2.2.2.2.2.2.2.2.2.2.1
theorem dX8_mayBe_28 : decode cX8_mayBe 28 = .ok (.aload_n 0, 1) := dX8_mayBe_r0.2.2.2.2.2.2.2.2.2.2.2.2.2.2.1
theorem dX8_mayBe_29 : decode cX8_mayBe 29 = .ok (.getfield 207, 3) := dX8_mayBe_r0.2.2.2.2.2.2.2.2.2.2.2.2.2.2.2.1
theorem dX8_mayBe_r32 : zdcP cX8_mayBe 32 [(.ifCond .eq 18, 3), (.aload_n 0, 1), (.getfield 44, 3), (.aload_n 0, 1), (.getfield 207, 3), (.iconst 1, 1), (.isub, 1), (.iaload, 1), (.iconst 1, 1), (.if_icmp .ne 7, 3), (.iconst 1, 1), (.goto 4, 3), (.iconst 0, 1), (.ireturn, 1), (.aload_n 0, 1), (.getfield 207, 3)] := zdcA_ok (by decide +kernel)
theorem dX8_mayBe_32 : decode cX8_mayBe 32 = .ok (.ifCond .eq 18, 3) := dX8_mayBe_r32.1
theorem dX8_mayBe_35 : decode cX8_mayBe 35 = .ok (.aload_n 0, 1) := dX8_mayBe_r32.2.1
theorem dX8_mayBe_36 : decode cX8_mayBe 36 = .ok (.getfield 44, 3) := dX8_mayBe_r32.2.2.1
theorem dX8_mayBe_39 : decode cX8_mayBe 39 = .ok (.aload_n 0, 1) := dX8_mayBe_r32.2.2.2.1
theorem dX8_mayBe_40 : decode cX8_mayBe 40 = .ok (.getfield 207, 3) := dX8_mayBe_r32.2.2.2.2.1
theorem dX8_mayBe_43 : decode cX8_mayBe 43 = .ok (.iconst 1, 1) := dX8_mayBe_r32.2.2.2.2.2.1
theorem dX8_mayBe_44 : decode cX8_mayBe 44 = .ok (.isub, 1) := dX8_mayBe_r32.2.2.2.2.2.2.1
theorem dX8_mayBe_45 : decode cX8_mayBe 45 = .ok (.iaload, 1) := dX8_mayBe_r32.2.2.2.2.2.2.2.1
theorem dX8_mayBe_46 : decode cX8_mayBe 46 = .ok (.iconst 1, 1) := dX8_mayBe_r32.2.2.2.2.2.2.2.2.1
theorem dX8_mayBe_47 : decode cX8_mayBe 47 = .ok (.if_icmp .ne 7, 3) := dX8_mayBe_r32.2.2.2.2.2.2.2.2.2.1
theorem dX8_mayBe_50 : decode cX8_mayBe 50 = .ok (.iconst 1, 1) := dX8_mayBe_r32.2.2.2.2.2.2.2.2.2.2.1
theorem dX8_mayBe_51 : decode cX8_mayBe 51 = .ok (.goto 4, 3) := dX8_mayBe_r32.2.2.2.2.2.2.2.2.2.2.2.1
theorem dX8_mayBe_54 : decode cX8_mayBe 54 = .ok (.iconst 0, 1) := dX8_mayBe_r32.2.2.2.2.2.2.2.2.2.2.2.2.1
theorem dX8_mayBe_55 : decode cX8_mayBe 55 = .ok (.ireturn, 1) := dX8_mayBe_r32.2.2.2.2.2.2.2.2.2.2.2.2.2.1
theorem dX8_mayBe_56 : decode cX8_mayBe 56 = .ok (.aload_n 0, 1) := dX8_mayBe_r32.2.2.2.2.2.2.2.2.2.2.2.2.2.2.1
theorem dX8_mayBe_57 : decode cX8_mayBe 57 = .ok (.getfield 207, 3) := dX8_mayBe_r32.2.2.2.2.2.2.2.2.2.2.2.2.2.2.2.1
theorem dX8_mayBe_r60 : zdcP cX8_mayBe 60 [(.aload_n 0, 1), (.getfield 108, 3), (.if_icmp .ge 10, 3), (.aload_n 0, 1), (.invokevirtual 122, 3), (.ifCond .eq 5, 3), (.iconst 0, 1), (.ireturn, 1), (.iload_n 1, 1), (.bipush 6, 2), (.if_icmp .ne 18, 3), (.aload_n 0, 1), (.getfield 13, 3), (.ifCond .le 7, 3), (.iconst 1, 1), (.goto 40, 3)] := zdcA_ok (by decide +kernel)
theorem dX8_mayBe_60 : decode cX8_mayBe 60 = .ok (.aload_n 0, 1) := dX8_mayBe_r60.1
theorem dX8_mayBe_61 : decode cX8_mayBe 61 = .ok (.getfield 108, 3) := dX8_mayBe_r60.2.1
theorem dX8_mayBe_64 : decode cX8_mayBe 64 = .ok (.if_icmp .ge 10, 3) := dX8_mayBe_r60.2.2.1
theorem dX8_mayBe_67 : decode cX8_mayBe 67 = .ok (.aload_n 0, 1) := dX8_mayBe_r60.2.2.2.1
theorem dX8_mayBe_68 : decode cX8_mayBe 68 = .ok (.invokevirtual 122, 3) := dX8_mayBe_r60.2.2.2.2.1
theorem dX8_mayBe_71 : decode cX8_mayBe 71 = .ok (.ifCond .eq 5, 3) := dX8_mayBe_r60.2.2.2.2.2.1
theorem dX8_mayBe_74 : decode cX8_mayBe 74 = .ok (.iconst 0, 1) := dX8_mayBe_r60.2.2.2.2.2.2.1
theorem dX8_mayBe_75 : decode cX8_mayBe 75 = .ok (.ireturn, 1) := dX8_mayBe_r60.2.2.2.2.2.2.2.1
theorem dX8_mayBe_76 : decode cX8_mayBe 76 = .ok (.iload_n 1, 1) := dX8_mayBe_r60.2.2.2.2.2.2.2.2.1
theorem dX8_mayBe_77 : decode cX8_mayBe 77 = .ok (.bipush 6, 2) := dX8_mayBe_r60.2.2.2.2.2.2.2.2.2.1
theorem dX8_mayBe_79 : decode cX8_mayBe 79 = .ok (.if_icmp .ne 18, 3) := dX8_mayBe_r60.2.2.2.2.2.2.2.2.2.2.1
theorem dX8_mayBe_82 : decode cX8_mayBe 82 = .ok (.aload_n 0, 1) := dX8_mayBe_r60.2.2.2.2.2.2.2.2.2.2.2.1
theorem dX8_mayBe_83 : decode cX8_mayBe 83 = .ok (.getfield 13, 3) := dX8_mayBe_r60.2.2.2.2.2.2.2.2.2.2.2.2.1
theorem dX8_mayBe_86 : decode cX8_mayBe 86 = .ok (.ifCond .le 7, 3) := dX8_mayBe_r60.2.2.2.2.2.2.2.2.2.2.2.2.2.1
theorem dX8_mayBe_89 : decode cX8_mayBe 89 = .ok (.iconst 1, 1) := dX8_mayBe_r60.2.2.2.2.2.2.2.2.2.2.2.2.2.2.1
theorem dX8_mayBe_90 : decode cX8_mayBe 90 = .ok (.goto 40, 3) := dX8_mayBe_r60.2.2.2.2.2.2.2.2.2.2.2.2.2.2.2.1
theorem dX8_mayBe_r93 : zdcP cX8_mayBe 93 [(.iconst 0, 1), (.goto 36, 3), (.iload_n 1, 1), (.bipush 7, 2), (.if_icmp .ne 18, 3), (.aload_n 0, 1), (.getfield 22, 3), (.ifCond .le 7, 3), (.iconst 1, 1), (.goto 19, 3), (.iconst 0, 1), (.goto 15, 3), (.aload_n 0, 1), (.getfield 25, 3), (.ifCond .le 7, 3), (.iconst 1, 1)] := zdcA_ok (by decide +kernel)
theorem dX8_mayBe_93 : decode cX8_mayBe 93 = .ok (.iconst 0, 1) := dX8_mayBe_r93.1
theorem dX8_mayBe_94 : decode cX8_mayBe 94 = .ok (.goto 36, 3) := dX8_mayBe_r93.2.1
theorem dX8_mayBe_97 : decode cX8_mayBe 97 = .ok (.iload_n 1, 1) := dX8_mayBe_r93.2.2.1
theorem dX8_mayBe_98 : decode cX8_mayBe 98 = .ok (.bipush 7, 2) := dX8_mayBe_r93.2.2.2.1
theorem dX8_mayBe_100 : decode cX8_mayBe 100 = .ok (.if_icmp .ne 18, 3) := dX8_mayBe_r93.2.2.2.2.1
theorem dX8_mayBe_103 : decode cX8_mayBe 103 = .ok (.aload_n 0, 1) := dX8_mayBe_r93.2.2.2.2.2.1
theorem dX8_mayBe_104 : decode cX8_mayBe 104 = .ok (.getfield 22, 3) := dX8_mayBe_r93.2.2.2.2.2.2.1
theorem dX8_mayBe_107 : decode cX8_mayBe 107 = .ok (.ifCond .le 7, 3) := dX8_mayBe_r93.2.2.2.2.2.2.2.1
theorem dX8_mayBe_110 : decode cX8_mayBe 110 = .ok (.iconst 1, 1) := dX8_mayBe_r93.2.2.2.2.2.2.2.2.1
theorem dX8_mayBe_111 : decode cX8_mayBe 111 = .ok (.goto 19, 3) := dX8_mayBe_r93.2.2.2.2.2.2.2.2.2.1
theorem dX8_mayBe_114 : decode cX8_mayBe 114 = .ok (.iconst 0, 1) := dX8_mayBe_r93.2.2.2.2.2.2.2.2.2.2.1
theorem dX8_mayBe_115 : decode cX8_mayBe 115 = .ok (.goto 15, 3) := dX8_mayBe_r93.2.2.2.2.2.2.2.2.2.2.2.1
theorem dX8_mayBe_118 : decode cX8_mayBe 118 = .ok (.aload_n 0, 1) := dX8_mayBe_r93.2.2.2.2.2.2.2.2.2.2.2.2.1
theorem dX8_mayBe_119 : decode cX8_mayBe 119 = .ok (.getfield 25, 3) := dX8_mayBe_r93.2.2.2.2.2.2.2.2.2.2.2.2.2.1
theorem dX8_mayBe_122 : decode cX8_mayBe 122 = .ok (.ifCond .le 7, 3) := dX8_mayBe_r93.2.2.2.2.2.2.2.2.2.2.2.2.2.2.1
theorem dX8_mayBe_125 : decode cX8_mayBe 125 = .ok (.iconst 1, 1) := dX8_mayBe_r93.2.2.2.2.2.2.2.2.2.2.2.2.2.2.2.1
theorem dX8_mayBe_r126 : zdcP cX8_mayBe 126 [(.goto 4, 3), (.iconst 0, 1), (.ireturn, 1)] := zdcA_ok (by decide +kernel)
theorem dX8_mayBe_126 : decode cX8_mayBe 126 = .ok (.goto 4, 3) := dX8_mayBe_r126.1
theorem dX8_mayBe_129 : decode cX8_mayBe 129 = .ok (.iconst 0, 1) := dX8_mayBe_r126.2.1
theorem dX8_mayBe_130 : decode cX8_mayBe 130 = .ok (.ireturn, 1) := dX8_mayBe_r126.2.2.1
def wp_167 (v1 : Int32) (m : zf_Me) (Q : Bool → zf_Me → Prop) : Prop := ((v1.toInt ≥ 6 → ((¬ v1.toInt = 9 → ((((m.1 63 10)).toInt ≥ ((m.1 63 0)).toInt → Q false m) ∧ (((m.1 63 10)).toInt < ((m.1 63 0)).toInt → wp_164 m (fun b1 m2 => ((b1 = false → ((¬ v1.toInt = 6 → ((¬ v1.toInt = 7 → ((((m2.1 63 8)).toInt ≤ 0 → Q false m2) ∧ (((m2.1 63 8)).toInt > 0 → Q true m2))) ∧ (v1.toInt = 7 → ((((m2.1 63 7)).toInt ≤ 0 → Q false m2) ∧ (((m2.1 63 7)).toInt > 0 → Q true m2))))) ∧ (v1.toInt = 6 → ((((m2.1 63 3)).toInt ≤ 0 → Q false m2) ∧ (((m2.1 63 3)).toInt > 0 → Q true m2))))) ∧ (b1 = true → Q false m2)))))) ∧ (v1.toInt = 9 → ((((m.1 63 11)).toInt > 900 → Q false m) ∧ (((m.1 63 11)).toInt ≤ 900 → ((((m.1 63 10)).toInt = 0 → Q true m) ∧ (¬ ((m.1 63 10)).toInt = 0 → ((0 ≤ (Int32.toInt ((m.1 63 10) - 1)) ∧ (Int32.toInt ((m.1 63 10) - 1)) < (24 : Int)) ∧ ((¬ ((m.1 66 (Int32.toInt ((m.1 63 10) - 1)).toNat)).toInt = 1 → Q false m) ∧ (((m.1 66 (Int32.toInt ((m.1 63 10) - 1)).toNat)).toInt = 1 → Q true m)))))))))) ∧ (v1.toInt < 6 → wp_166 v1 m (fun b3 m4 => Q b3 m4)))
theorem zr_167 {d : Nat} (hd : 2 ≤ d) {v1 : Int32} {Q : Bool → zf_Me → Prop} {m : zf_Me} (h : wp_167 v1 m Q) : zf_M d 167 [.inr (.inr (1, 63)), .inl v1] m (zf_B Q) := by
  obtain ⟨e, rfl⟩ : ∃ z, d = z + 1 := ⟨d - 1, by omega⟩
  unfold wp_167 at h
  refine zf_M_of (Nat.le_of_ble_eq_true rfl) zm_167 (L := [some (.inr (.inr (1, 63))), some (.inl v1)]) rfl ?_
  refine zf_ld (pc' := 1) (v := .inl v1) dX8_mayBe_0 rfl (fun _ _ _ => rfl) rfl rfl rfl ?_
  refine zf_bi (v := 6) (pc' := 3) dX8_mayBe_1 rfl rfl ?_
  refine zf_icmp_ge (tgt := 12) (pc' := 6) dX8_mayBe_3 rfl rfl (fun g => ?_) (fun g => ?_)
  · replace h := h.1 g
    refine zf_ld (pc' := 13) (v := .inl v1) dX8_mayBe_12 rfl (fun _ _ _ => rfl) rfl rfl rfl ?_
    refine zf_bi (v := 9) (pc' := 15) dX8_mayBe_13 rfl rfl ?_
    refine zf_icmp_ne (tgt := 56) (pc' := 18) dX8_mayBe_15 rfl rfl (fun g => ?_) (fun g => ?_)
    · replace h := h.1 g
      refine zf_ld (pc' := 57) (v := .inr (.inr (1, 63))) dX8_mayBe_56 rfl (fun _ _ _ => rfl) rfl rfl rfl ?_
      refine zf_gfi (pc' := 60) dX8_mayBe_57 rfl rfl (by decide) rfl rfl ?_
      refine zf_ld (pc' := 61) (v := .inr (.inr (1, 63))) dX8_mayBe_60 rfl (fun _ _ _ => rfl) rfl rfl rfl ?_
      refine zf_gfi (pc' := 64) dX8_mayBe_61 rfl rfl (by decide) rfl rfl ?_
      refine zf_icmp_ge (tgt := 74) (pc' := 67) dX8_mayBe_64 rfl rfl (fun g => ?_) (fun g => ?_)
      · replace h := h.1 g
        refine zf_ic (v := 0) (pc' := 75) dX8_mayBe_74 rfl rfl ?_
        exact zf_rb (b := false) dX8_mayBe_75 rfl h
      · replace h := h.2 g
        refine zf_ld (pc' := 68) (v := .inr (.inr (1, 63))) dX8_mayBe_67 rfl (fun _ _ _ => rfl) rfl rfl rfl ?_
        refine zf_iv (k := 164) (pc' := 71) (r := []) dX8_mayBe_68 rfl rfl rfl rfl (by decide) rfl rfl rfl (zr_164 (by omega) h) (zf_kB (fun b1 m2 h => ?_))
        refine zf_ib_eq (tgt := 76) (pc' := 74) dX8_mayBe_71 rfl rfl (fun g => ?_) (fun g => ?_)
        · replace h := h.1 g
          refine zf_ld (pc' := 77) (v := .inl v1) dX8_mayBe_76 rfl (fun _ _ _ => rfl) rfl rfl rfl ?_
          refine zf_bi (v := 6) (pc' := 79) dX8_mayBe_77 rfl rfl ?_
          refine zf_icmp_ne (tgt := 97) (pc' := 82) dX8_mayBe_79 rfl rfl (fun g => ?_) (fun g => ?_)
          · replace h := h.1 g
            refine zf_ld (pc' := 98) (v := .inl v1) dX8_mayBe_97 rfl (fun _ _ _ => rfl) rfl rfl rfl ?_
            refine zf_bi (v := 7) (pc' := 100) dX8_mayBe_98 rfl rfl ?_
            refine zf_icmp_ne (tgt := 118) (pc' := 103) dX8_mayBe_100 rfl rfl (fun g => ?_) (fun g => ?_)
            · replace h := h.1 g
              refine zf_ld (pc' := 119) (v := .inr (.inr (1, 63))) dX8_mayBe_118 rfl (fun _ _ _ => rfl) rfl rfl rfl ?_
              refine zf_gfi (pc' := 122) dX8_mayBe_119 rfl rfl (by decide) rfl rfl ?_
              refine zf_if_le (tgt := 129) (pc' := 125) dX8_mayBe_122 rfl rfl (fun g => ?_) (fun g => ?_)
              · replace h := h.1 g
                refine zf_ic (v := 0) (pc' := 130) dX8_mayBe_129 rfl rfl ?_
                exact zf_rb (b := false) dX8_mayBe_130 rfl h
              · replace h := h.2 g
                refine zf_ic (v := 1) (pc' := 126) dX8_mayBe_125 rfl rfl ?_
                refine zf_goto (tgt := 130) dX8_mayBe_126 rfl ?_
                exact zf_rb (b := true) dX8_mayBe_130 rfl h
            · replace h := h.2 g
              refine zf_ld (pc' := 104) (v := .inr (.inr (1, 63))) dX8_mayBe_103 rfl (fun _ _ _ => rfl) rfl rfl rfl ?_
              refine zf_gfi (pc' := 107) dX8_mayBe_104 rfl rfl (by decide) rfl rfl ?_
              refine zf_if_le (tgt := 114) (pc' := 110) dX8_mayBe_107 rfl rfl (fun g => ?_) (fun g => ?_)
              · replace h := h.1 g
                refine zf_ic (v := 0) (pc' := 115) dX8_mayBe_114 rfl rfl ?_
                refine zf_goto (tgt := 130) dX8_mayBe_115 rfl ?_
                exact zf_rb (b := false) dX8_mayBe_130 rfl h
              · replace h := h.2 g
                refine zf_ic (v := 1) (pc' := 111) dX8_mayBe_110 rfl rfl ?_
                refine zf_goto (tgt := 130) dX8_mayBe_111 rfl ?_
                exact zf_rb (b := true) dX8_mayBe_130 rfl h
          · replace h := h.2 g
            refine zf_ld (pc' := 83) (v := .inr (.inr (1, 63))) dX8_mayBe_82 rfl (fun _ _ _ => rfl) rfl rfl rfl ?_
            refine zf_gfi (pc' := 86) dX8_mayBe_83 rfl rfl (by decide) rfl rfl ?_
            refine zf_if_le (tgt := 93) (pc' := 89) dX8_mayBe_86 rfl rfl (fun g => ?_) (fun g => ?_)
            · replace h := h.1 g
              refine zf_ic (v := 0) (pc' := 94) dX8_mayBe_93 rfl rfl ?_
              refine zf_goto (tgt := 130) dX8_mayBe_94 rfl ?_
              exact zf_rb (b := false) dX8_mayBe_130 rfl h
            · replace h := h.2 g
              refine zf_ic (v := 1) (pc' := 90) dX8_mayBe_89 rfl rfl ?_
              refine zf_goto (tgt := 130) dX8_mayBe_90 rfl ?_
              exact zf_rb (b := true) dX8_mayBe_130 rfl h
        · replace h := h.2 g
          refine zf_ic (v := 0) (pc' := 75) dX8_mayBe_74 rfl rfl ?_
          exact zf_rb (b := false) dX8_mayBe_75 rfl h
    · replace h := h.2 g
      refine zf_ld (pc' := 19) (v := .inr (.inr (1, 63))) dX8_mayBe_18 rfl (fun _ _ _ => rfl) rfl rfl rfl ?_
      refine zf_gfi (pc' := 22) dX8_mayBe_19 rfl rfl (by decide) rfl rfl ?_
      refine zf_si (v := 900) (pc' := 25) dX8_mayBe_22 rfl rfl ?_
      refine zf_icmp_gt (tgt := 54) (pc' := 28) dX8_mayBe_25 rfl rfl (fun g => ?_) (fun g => ?_)
      · replace h := h.1 g
        refine zf_ic (v := 0) (pc' := 55) dX8_mayBe_54 rfl rfl ?_
        exact zf_rb (b := false) dX8_mayBe_55 rfl h
      · replace h := h.2 g
        refine zf_ld (pc' := 29) (v := .inr (.inr (1, 63))) dX8_mayBe_28 rfl (fun _ _ _ => rfl) rfl rfl rfl ?_
        refine zf_gfi (pc' := 32) dX8_mayBe_29 rfl rfl (by decide) rfl rfl ?_
        refine zf_if_eq (tgt := 50) (pc' := 35) dX8_mayBe_32 rfl rfl (fun g => ?_) (fun g => ?_)
        · replace h := h.1 g
          refine zf_ic (v := 1) (pc' := 51) dX8_mayBe_50 rfl rfl ?_
          refine zf_goto (tgt := 55) dX8_mayBe_51 rfl ?_
          exact zf_rb (b := true) dX8_mayBe_55 rfl h
        · replace h := h.2 g
          refine zf_ld (pc' := 36) (v := .inr (.inr (1, 63))) dX8_mayBe_35 rfl (fun _ _ _ => rfl) rfl rfl rfl ?_
          refine zf_gfr (pc' := 39) (b := 66) dX8_mayBe_36 rfl rfl (by decide) rfl rfl ?_
          refine zf_ld (pc' := 40) (v := .inr (.inr (1, 63))) dX8_mayBe_39 rfl (fun _ _ _ => rfl) rfl rfl rfl ?_
          refine zf_gfi (pc' := 43) dX8_mayBe_40 rfl rfl (by decide) rfl rfl ?_
          refine zf_ic (v := 1) (pc' := 44) dX8_mayBe_43 rfl rfl ?_
          refine zf_in (pc' := 45) (S' := [.inl ((m.1 63 10) - 1), .inr (.inr (1, 66))]) dX8_mayBe_44 rfl (fun _ _ _ => rfl) ?_
          refine zf_ial (pc' := 46) dX8_mayBe_45 rfl (⟨by decide, rfl⟩ : zf_arr 66 24).1 (⟨by decide, rfl⟩ : zf_arr 66 24).2 h.1 rfl ?_
          replace h := h.2
          refine zf_ic (v := 1) (pc' := 47) dX8_mayBe_46 rfl rfl ?_
          refine zf_icmp_ne (tgt := 54) (pc' := 50) dX8_mayBe_47 rfl rfl (fun g => ?_) (fun g => ?_)
          · replace h := h.1 g
            refine zf_ic (v := 0) (pc' := 55) dX8_mayBe_54 rfl rfl ?_
            exact zf_rb (b := false) dX8_mayBe_55 rfl h
          · replace h := h.2 g
            refine zf_ic (v := 1) (pc' := 51) dX8_mayBe_50 rfl rfl ?_
            refine zf_goto (tgt := 55) dX8_mayBe_51 rfl ?_
            exact zf_rb (b := true) dX8_mayBe_55 rfl h
  · replace h := h.2 g
    refine zf_ld (pc' := 7) (v := .inr (.inr (1, 63))) dX8_mayBe_6 rfl (fun _ _ _ => rfl) rfl rfl rfl ?_
    refine zf_ld (pc' := 8) (v := .inl v1) dX8_mayBe_7 rfl (fun _ _ _ => rfl) rfl rfl rfl ?_
    refine zf_iv (k := 166) (pc' := 11) (r := []) dX8_mayBe_8 rfl rfl rfl rfl (by decide) rfl rfl rfl (zr_166 (by omega) h) (zf_kB (fun b3 m4 h => ?_))
    exact zf_rb (b := b3) dX8_mayBe_11 rfl h
def zt_158 : zx_MT := (8, yX8_isSo, cX8_isSo, 3, (some FieldType.boolean), 2, 0)
theorem zm_158 : zx_m 158 = zt_158 := rfl
theorem dX8_isSo_0 : decode cX8_isSo 0 = .ok (.iload_n 1, 1) := zdc_ok (by decide +kernel)
theorem dX8_isSo_1 : decode cX8_isSo 1 = .ok (.tableswitch 166 0 11 #[63, 63, 166, 77, 101, 123, 166, 166, 166, 166, 166, 140], 63) := by decide +kernel
theorem dX8_isSo_r64 : zdcP cX8_isSo 64 [(.aload_n 0, 1), (.getfield 171, 3), (.iconst 3, 1), (.if_icmp .gt 7, 3), (.iconst 1, 1), (.goto 4, 3), (.iconst 0, 1), (.ireturn, 1), (.aload_n 0, 1), (.getfield 171, 3), (.iload_n 2, 1), (.ifCond .ne 8, 3), (.bipush 6, 2), (.goto 5, 3), (.bipush 9, 2), (.if_icmp .gt 7, 3)] := zdcA_ok (by decide +kernel)
theorem dX8_isSo_64 : decode cX8_isSo 64 = .ok (.aload_n 0, 1) := dX8_isSo_r64.1
theorem dX8_isSo_65 : decode cX8_isSo 65 = .ok (.getfield 171, 3) := dX8_isSo_r64.2.1
theorem dX8_isSo_68 : decode cX8_isSo 68 = .ok (.iconst 3, 1) := dX8_isSo_r64.2.2.1
theorem dX8_isSo_69 : decode cX8_isSo 69 = .ok (.if_icmp .gt 7, 3) := dX8_isSo_r64.2.2.2.1
theorem dX8_isSo_72 : decode cX8_isSo 72 = .ok (.iconst 1, 1) := dX8_isSo_r64.2.2.2.2.1
theorem dX8_isSo_73 : decode cX8_isSo 73 = .ok (.goto 4, 3) := dX8_isSo_r64.2.2.2.2.2.1
theorem dX8_isSo_76 : decode cX8_isSo 76 = .ok (.iconst 0, 1) := dX8_isSo_r64.2.2.2.2.2.2.1
theorem dX8_isSo_77 : decode cX8_isSo 77 = .ok (.ireturn, 1) := dX8_isSo_r64.2.2.2.2.2.2.2.1
theorem dX8_isSo_78 : decode cX8_isSo 78 = .ok (.aload_n 0, 1) := dX8_isSo_r64.2.2.2.2.2.2.2.2.1
theorem dX8_isSo_79 : decode cX8_isSo 79 = .ok (.getfield 171, 3) := dX8_isSo_r64.2.2.2.2.2.2.2.2.2.1
theorem dX8_isSo_82 : decode cX8_isSo 82 = .ok (.iload_n 2, 1) := dX8_isSo_r64.2.2.2.2.2.2.2.2.2.2.1
theorem dX8_isSo_83 : decode cX8_isSo 83 = .ok (.ifCond .ne 8, 3) := dX8_isSo_r64.2.2.2.2.2.2.2.2.2.2.2.1
theorem dX8_isSo_86 : decode cX8_isSo 86 = .ok (.bipush 6, 2) := dX8_isSo_r64.2.2.2.2.2.2.2.2.2.2.2.2.1
theorem dX8_isSo_88 : decode cX8_isSo 88 = .ok (.goto 5, 3) := dX8_isSo_r64.2.2.2.2.2.2.2.2.2.2.2.2.2.1
theorem dX8_isSo_91 : decode cX8_isSo 91 = .ok (.bipush 9, 2) := dX8_isSo_r64.2.2.2.2.2.2.2.2.2.2.2.2.2.2.1
theorem dX8_isSo_93 : decode cX8_isSo 93 = .ok (.if_icmp .gt 7, 3) := dX8_isSo_r64.2.2.2.2.2.2.2.2.2.2.2.2.2.2.2.1
theorem dX8_isSo_r96 : zdcP cX8_isSo 96 [(.iconst 1, 1), (.goto 4, 3), (.iconst 0, 1), (.ireturn, 1), (.iload_n 2, 1), (.iconst 1, 1), (.if_icmp .eq 14, 3), (.aload_n 0, 1), (.getfield 171, 3), (.aload_n 0, 1), (.getfield 105, 3), (.if_icmp .ge 7, 3), (.iconst 1, 1), (.goto 4, 3), (.iconst 0, 1), (.ireturn, 1)] := zdcA_ok (by decide +kernel)
theorem dX8_isSo_96 : decode cX8_isSo 96 = .ok (.iconst 1, 1) := dX8_isSo_r96.1
theorem dX8_isSo_97 : decode cX8_isSo 97 = .ok (.goto 4, 3) := dX8_isSo_r96.2.1
theorem dX8_isSo_100 : decode cX8_isSo 100 = .ok (.iconst 0, 1) := dX8_isSo_r96.2.2.1
theorem dX8_isSo_101 : decode cX8_isSo 101 = .ok (.ireturn, 1) := dX8_isSo_r96.2.2.2.1
theorem dX8_isSo_102 : decode cX8_isSo 102 = .ok (.iload_n 2, 1) := dX8_isSo_r96.2.2.2.2.1
theorem dX8_isSo_103 : decode cX8_isSo 103 = .ok (.iconst 1, 1) := dX8_isSo_r96.2.2.2.2.2.1
theorem dX8_isSo_104 : decode cX8_isSo 104 = .ok (.if_icmp .eq 14, 3) := dX8_isSo_r96.2.2.2.2.2.2.1
theorem dX8_isSo_107 : decode cX8_isSo 107 = .ok (.aload_n 0, 1) := dX8_isSo_r96.2.2.2.2.2.2.2.1
theorem dX8_isSo_108 : decode cX8_isSo 108 = .ok (.getfield 171, 3) := dX8_isSo_r96.2.2.2.2.2.2.2.2.1
theorem dX8_isSo_111 : decode cX8_isSo 111 = .ok (.aload_n 0, 1) := dX8_isSo_r96.2.2.2.2.2.2.2.2.2.1
theorem dX8_isSo_112 : decode cX8_isSo 112 = .ok (.getfield 105, 3) := dX8_isSo_r96.2.2.2.2.2.2.2.2.2.2.1
theorem dX8_isSo_115 : decode cX8_isSo 115 = .ok (.if_icmp .ge 7, 3) := dX8_isSo_r96.2.2.2.2.2.2.2.2.2.2.2.1
theorem dX8_isSo_118 : decode cX8_isSo 118 = .ok (.iconst 1, 1) := dX8_isSo_r96.2.2.2.2.2.2.2.2.2.2.2.2.1
theorem dX8_isSo_119 : decode cX8_isSo 119 = .ok (.goto 4, 3) := dX8_isSo_r96.2.2.2.2.2.2.2.2.2.2.2.2.2.1
theorem dX8_isSo_122 : decode cX8_isSo 122 = .ok (.iconst 0, 1) := dX8_isSo_r96.2.2.2.2.2.2.2.2.2.2.2.2.2.2.1
theorem dX8_isSo_123 : decode cX8_isSo 123 = .ok (.ireturn, 1) := dX8_isSo_r96.2.2.2.2.2.2.2.2.2.2.2.2.2.2.2.1
theorem dX8_isSo_r124 : zdcP cX8_isSo 124 [(.aload_n 0, 1), (.getfield 171, 3), (.aload_n 0, 1), (.getfield 105, 3), (.if_icmp .ge 7, 3), (.iconst 1, 1), (.goto 4, 3), (.iconst 0, 1), (.ireturn, 1), (.aload_n 0, 1), (.getfield 171, 3), (.bipush 9, 2), (.if_icmp .gt 18, 3), (.aload_n 0, 1), (.aload_n 0, 1), (.getfield 171, 3)] := zdcA_ok (by decide +kernel)
theorem dX8_isSo_124 : decode cX8_isSo 124 = .ok (.aload_n 0, 1) := dX8_isSo_r124.1
theorem dX8_isSo_125 : decode cX8_isSo 125 = .ok (.getfield 171, 3) := dX8_isSo_r124.2.1
theorem dX8_isSo_128 : decode cX8_isSo 128 = .ok (.aload_n 0, 1) := dX8_isSo_r124.2.2.1
theorem dX8_isSo_129 : decode cX8_isSo 129 = .ok (.getfield 105, 3) := dX8_isSo_r124.2.2.2.1
theorem dX8_isSo_132 : decode cX8_isSo 132 = .ok (.if_icmp .ge 7, 3) := dX8_isSo_r124.2.2.2.2.1
theorem dX8_isSo_135 : decode cX8_isSo 135 = .ok (.iconst 1, 1) := dX8_isSo_r124.2.2.2.2.2.1
theorem dX8_isSo_136 : decode cX8_isSo 136 = .ok (.goto 4, 3) := dX8_isSo_r124.2.2.2.2.2.2.1
theorem dX8_isSo_139 : decode cX8_isSo 139 = .ok (.iconst 0, 1) := dX8_isSo_r124.2.2.2.2.2.2.2.1
theorem dX8_isSo_140 : decode cX8_isSo 140 = .ok (.ireturn, 1) := dX8_isSo_r124.2.2.2.2.2.2.2.2.1
theorem dX8_isSo_141 : decode cX8_isSo 141 = .ok (.aload_n 0, 1) := dX8_isSo_r124.2.2.2.2.2.2.2.2.2.1
theorem dX8_isSo_142 : decode cX8_isSo 142 = .ok (.getfield 171, 3) := dX8_isSo_r124.2.2.2.2.2.2.2.2.2.2.1
theorem dX8_isSo_145 : decode cX8_isSo 145 = .ok (.bipush 9, 2) := dX8_isSo_r124.2.2.2.2.2.2.2.2.2.2.2.1
theorem dX8_isSo_147 : decode cX8_isSo 147 = .ok (.if_icmp .gt 18, 3) := dX8_isSo_r124.2.2.2.2.2.2.2.2.2.2.2.2.1
theorem dX8_isSo_150 : decode cX8_isSo 150 = .ok (.aload_n 0, 1) := dX8_isSo_r124.2.2.2.2.2.2.2.2.2.2.2.2.2.1
theorem dX8_isSo_151 : decode cX8_isSo 151 = .ok (.aload_n 0, 1) := dX8_isSo_r124.2.2.2.2.2.2.2.2.2.2.2.2.2.2.1
theorem dX8_isSo_152 : decode cX8_isSo 152 = .ok (.getfield 171, 3) := dX8_isSo_r124.2.2.2.2.2.2.2.2.2.2.2.2.2.2.2.1
theorem dX8_isSo_r155 : zdcP cX8_isSo 155 [(.invokevirtual 180, 3), (.ifCond .eq 7, 3), (.iconst 1, 1), (.goto 4, 3), (.iconst 0, 1), (.ireturn, 1), (.aload_n 0, 1), (.iload_n 1, 1), (.bipush 6, 2), (.isub, 1), (.aload_n 0, 1), (.getfield 171, 3), (.invokevirtual 152, 3), (.ireturn, 1)] := zdcA_ok (by decide +kernel)
theorem dX8_isSo_155 : decode cX8_isSo 155 = .ok (.invokevirtual 180, 3) := dX8_isSo_r155.1
theorem dX8_isSo_158 : decode cX8_isSo 158 = .ok (.ifCond .eq 7, 3) := dX8_isSo_r155.2.1
theorem dX8_isSo_161 : decode cX8_isSo 161 = .ok (.iconst 1, 1) := dX8_isSo_r155.2.2.1
theorem dX8_isSo_162 : decode cX8_isSo 162 = .ok (.goto 4, 3) := dX8_isSo_r155.2.2.2.1
theorem dX8_isSo_165 : decode cX8_isSo 165 = .ok (.iconst 0, 1) := dX8_isSo_r155.2.2.2.2.1
theorem dX8_isSo_166 : decode cX8_isSo 166 = .ok (.ireturn, 1) := dX8_isSo_r155.2.2.2.2.2.1
theorem dX8_isSo_167 : decode cX8_isSo 167 = .ok (.aload_n 0, 1) := dX8_isSo_r155.2.2.2.2.2.2.1
theorem dX8_isSo_168 : decode cX8_isSo 168 = .ok (.iload_n 1, 1) := dX8_isSo_r155.2.2.2.2.2.2.2.1
theorem dX8_isSo_169 : decode cX8_isSo 169 = .ok (.bipush 6, 2) := dX8_isSo_r155.2.2.2.2.2.2.2.2.1
theorem dX8_isSo_171 : decode cX8_isSo 171 = .ok (.isub, 1) := dX8_isSo_r155.2.2.2.2.2.2.2.2.2.1
theorem dX8_isSo_172 : decode cX8_isSo 172 = .ok (.aload_n 0, 1) := dX8_isSo_r155.2.2.2.2.2.2.2.2.2.2.1
theorem dX8_isSo_173 : decode cX8_isSo 173 = .ok (.getfield 171, 3) := dX8_isSo_r155.2.2.2.2.2.2.2.2.2.2.2.1
theorem dX8_isSo_176 : decode cX8_isSo 176 = .ok (.invokevirtual 152, 3) := dX8_isSo_r155.2.2.2.2.2.2.2.2.2.2.2.2.1
theorem dX8_isSo_179 : decode cX8_isSo 179 = .ok (.ireturn, 1) := dX8_isSo_r155.2.2.2.2.2.2.2.2.2.2.2.2.2.1
def wp_158 (v1 : Int32) (v2 : Int32) (m : zf_Me) (Q : Bool → zf_Me → Prop) : Prop := (((v1.toInt < 0 ∨ v1.toInt > 11) → wp_146 (v1 - 6) (m.1 63 32) m (fun b1 m2 => Q b1 m2)) ∧ (v1.toInt = 0 → ((((m.1 63 32)).toInt > 3 → Q false m) ∧ (((m.1 63 32)).toInt ≤ 3 → Q true m))) ∧ (v1.toInt = 1 → ((((m.1 63 32)).toInt > 3 → Q false m) ∧ (((m.1 63 32)).toInt ≤ 3 → Q true m))) ∧ (v1.toInt = 2 → wp_146 (v1 - 6) (m.1 63 32) m (fun b3 m4 => Q b3 m4)) ∧ (v1.toInt = 3 → ((¬ v2.toInt = 0 → ((((m.1 63 32)).toInt > 9 → Q false m) ∧ (((m.1 63 32)).toInt ≤ 9 → Q true m))) ∧ (v2.toInt = 0 → ((((m.1 63 32)).toInt > 6 → Q false m) ∧ (((m.1 63 32)).toInt ≤ 6 → Q true m))))) ∧ (v1.toInt = 4 → ((v2.toInt = 1 → Q true m) ∧ (¬ v2.toInt = 1 → ((((m.1 63 32)).toInt ≥ ((m.1 63 1)).toInt → Q false m) ∧ (((m.1 63 32)).toInt < ((m.1 63 1)).toInt → Q true m))))) ∧ (v1.toInt = 5 → ((((m.1 63 32)).toInt ≥ ((m.1 63 1)).toInt → Q false m) ∧ (((m.1 63 32)).toInt < ((m.1 63 1)).toInt → Q true m))) ∧ (v1.toInt = 6 → wp_146 (v1 - 6) (m.1 63 32) m (fun b5 m6 => Q b5 m6)) ∧ (v1.toInt = 7 → wp_146 (v1 - 6) (m.1 63 32) m (fun b7 m8 => Q b7 m8)) ∧ (v1.toInt = 8 → wp_146 (v1 - 6) (m.1 63 32) m (fun b9 m10 => Q b9 m10)) ∧ (v1.toInt = 9 → wp_146 (v1 - 6) (m.1 63 32) m (fun b11 m12 => Q b11 m12)) ∧ (v1.toInt = 10 → wp_146 (v1 - 6) (m.1 63 32) m (fun b13 m14 => Q b13 m14)) ∧ (v1.toInt = 11 → ((((m.1 63 32)).toInt > 9 → Q false m) ∧ (((m.1 63 32)).toInt ≤ 9 → wp_167 (m.1 63 32) m (fun b15 m16 => ((b15 = false → Q false m16) ∧ (b15 = true → Q true m16)))))))
theorem zr_158 {d : Nat} (hd : 3 ≤ d) {v1 : Int32} {v2 : Int32} {Q : Bool → zf_Me → Prop} {m : zf_Me} (h : wp_158 v1 v2 m Q) : zf_M d 158 [.inr (.inr (1, 63)), .inl v1, .inl v2] m (zf_B Q) := by
  obtain ⟨e, rfl⟩ : ∃ z, d = z + 1 := ⟨d - 1, by omega⟩
  unfold wp_158 at h
  refine zf_M_of (Nat.le_of_ble_eq_true rfl) zm_158 (L := [some (.inr (.inr (1, 63))), some (.inl v1), some (.inl v2)]) rfl ?_
  refine zf_ld (pc' := 1) (v := .inl v1) dX8_isSo_0 rfl (fun _ _ _ => rfl) rfl rfl rfl ?_
  refine zf_tsc (tgd := 167) dX8_isSo_1 rfl [64, 64, 167, 78, 102, 124, 167, 167, 167, 167, 167, 141] (by decide) (by decide) (fun g => ?_) (zl_cons (fun g => ?_) (zl_cons (fun g => ?_) (zl_cons (fun g => ?_) (zl_cons (fun g => ?_) (zl_cons (fun g => ?_) (zl_cons (fun g => ?_) (zl_cons (fun g => ?_) (zl_cons (fun g => ?_) (zl_cons (fun g => ?_) (zl_cons (fun g => ?_) (zl_cons (fun g => ?_) (zl_cons (fun g => ?_) (zl_nil)))))))))))))
  · replace h := h.1 (by omega)
    refine zf_ld (pc' := 168) (v := .inr (.inr (1, 63))) dX8_isSo_167 rfl (fun _ _ _ => rfl) rfl rfl rfl ?_
    refine zf_ld (pc' := 169) (v := .inl v1) dX8_isSo_168 rfl (fun _ _ _ => rfl) rfl rfl rfl ?_
    refine zf_bi (v := 6) (pc' := 171) dX8_isSo_169 rfl rfl ?_
    refine zf_in (pc' := 172) (S' := [.inl (v1 - 6), .inr (.inr (1, 63))]) dX8_isSo_171 rfl (fun _ _ _ => rfl) ?_
    refine zf_ld (pc' := 173) (v := .inr (.inr (1, 63))) dX8_isSo_172 rfl (fun _ _ _ => rfl) rfl rfl rfl ?_
    refine zf_gfi (pc' := 176) dX8_isSo_173 rfl rfl (by decide) rfl rfl ?_
    refine zf_iv (k := 146) (pc' := 179) (r := []) dX8_isSo_176 rfl rfl rfl rfl (by decide) rfl rfl rfl (zr_146 (by omega) h) (zf_kB (fun b1 m2 h => ?_))
    exact zf_rb (b := b1) dX8_isSo_179 rfl h
  · replace h := h.2.1 (by omega)
    refine zf_ld (pc' := 65) (v := .inr (.inr (1, 63))) dX8_isSo_64 rfl (fun _ _ _ => rfl) rfl rfl rfl ?_
    refine zf_gfi (pc' := 68) dX8_isSo_65 rfl rfl (by decide) rfl rfl ?_
    refine zf_ic (v := 3) (pc' := 69) dX8_isSo_68 rfl rfl ?_
    refine zf_icmp_gt (tgt := 76) (pc' := 72) dX8_isSo_69 rfl rfl (fun g => ?_) (fun g => ?_)
    · replace h := h.1 g
      refine zf_ic (v := 0) (pc' := 77) dX8_isSo_76 rfl rfl ?_
      exact zf_rb (b := false) dX8_isSo_77 rfl h
    · replace h := h.2 g
      refine zf_ic (v := 1) (pc' := 73) dX8_isSo_72 rfl rfl ?_
      refine zf_goto (tgt := 77) dX8_isSo_73 rfl ?_
      exact zf_rb (b := true) dX8_isSo_77 rfl h
  · replace h := h.2.2.1 (by omega)
    refine zf_ld (pc' := 65) (v := .inr (.inr (1, 63))) dX8_isSo_64 rfl (fun _ _ _ => rfl) rfl rfl rfl ?_
    refine zf_gfi (pc' := 68) dX8_isSo_65 rfl rfl (by decide) rfl rfl ?_
    refine zf_ic (v := 3) (pc' := 69) dX8_isSo_68 rfl rfl ?_
    refine zf_icmp_gt (tgt := 76) (pc' := 72) dX8_isSo_69 rfl rfl (fun g => ?_) (fun g => ?_)
    · replace h := h.1 g
      refine zf_ic (v := 0) (pc' := 77) dX8_isSo_76 rfl rfl ?_
      exact zf_rb (b := false) dX8_isSo_77 rfl h
    · replace h := h.2 g
      refine zf_ic (v := 1) (pc' := 73) dX8_isSo_72 rfl rfl ?_
      refine zf_goto (tgt := 77) dX8_isSo_73 rfl ?_
      exact zf_rb (b := true) dX8_isSo_77 rfl h
  · replace h := h.2.2.2.1 (by omega)
    refine zf_ld (pc' := 168) (v := .inr (.inr (1, 63))) dX8_isSo_167 rfl (fun _ _ _ => rfl) rfl rfl rfl ?_
    refine zf_ld (pc' := 169) (v := .inl v1) dX8_isSo_168 rfl (fun _ _ _ => rfl) rfl rfl rfl ?_
    refine zf_bi (v := 6) (pc' := 171) dX8_isSo_169 rfl rfl ?_
    refine zf_in (pc' := 172) (S' := [.inl (v1 - 6), .inr (.inr (1, 63))]) dX8_isSo_171 rfl (fun _ _ _ => rfl) ?_
    refine zf_ld (pc' := 173) (v := .inr (.inr (1, 63))) dX8_isSo_172 rfl (fun _ _ _ => rfl) rfl rfl rfl ?_
    refine zf_gfi (pc' := 176) dX8_isSo_173 rfl rfl (by decide) rfl rfl ?_
    refine zf_iv (k := 146) (pc' := 179) (r := []) dX8_isSo_176 rfl rfl rfl rfl (by decide) rfl rfl rfl (zr_146 (by omega) h) (zf_kB (fun b3 m4 h => ?_))
    exact zf_rb (b := b3) dX8_isSo_179 rfl h
  · replace h := h.2.2.2.2.1 (by omega)
    refine zf_ld (pc' := 79) (v := .inr (.inr (1, 63))) dX8_isSo_78 rfl (fun _ _ _ => rfl) rfl rfl rfl ?_
    refine zf_gfi (pc' := 82) dX8_isSo_79 rfl rfl (by decide) rfl rfl ?_
    refine zf_ld (pc' := 83) (v := .inl v2) dX8_isSo_82 rfl (fun _ _ _ => rfl) rfl rfl rfl ?_
    refine zf_if_ne (tgt := 91) (pc' := 86) dX8_isSo_83 rfl rfl (fun g => ?_) (fun g => ?_)
    · replace h := h.1 g
      refine zf_bi (v := 9) (pc' := 93) dX8_isSo_91 rfl rfl ?_
      refine zf_icmp_gt (tgt := 100) (pc' := 96) dX8_isSo_93 rfl rfl (fun g => ?_) (fun g => ?_)
      · replace h := h.1 g
        refine zf_ic (v := 0) (pc' := 101) dX8_isSo_100 rfl rfl ?_
        exact zf_rb (b := false) dX8_isSo_101 rfl h
      · replace h := h.2 g
        refine zf_ic (v := 1) (pc' := 97) dX8_isSo_96 rfl rfl ?_
        refine zf_goto (tgt := 101) dX8_isSo_97 rfl ?_
        exact zf_rb (b := true) dX8_isSo_101 rfl h
    · replace h := h.2 g
      refine zf_bi (v := 6) (pc' := 88) dX8_isSo_86 rfl rfl ?_
      refine zf_goto (tgt := 93) dX8_isSo_88 rfl ?_
      refine zf_icmp_gt (tgt := 100) (pc' := 96) dX8_isSo_93 rfl rfl (fun g => ?_) (fun g => ?_)
      · replace h := h.1 g
        refine zf_ic (v := 0) (pc' := 101) dX8_isSo_100 rfl rfl ?_
        exact zf_rb (b := false) dX8_isSo_101 rfl h
      · replace h := h.2 g
        refine zf_ic (v := 1) (pc' := 97) dX8_isSo_96 rfl rfl ?_
        refine zf_goto (tgt := 101) dX8_isSo_97 rfl ?_
        exact zf_rb (b := true) dX8_isSo_101 rfl h
  · replace h := h.2.2.2.2.2.1 (by omega)
    refine zf_ld (pc' := 103) (v := .inl v2) dX8_isSo_102 rfl (fun _ _ _ => rfl) rfl rfl rfl ?_
    refine zf_ic (v := 1) (pc' := 104) dX8_isSo_103 rfl rfl ?_
    refine zf_icmp_eq (tgt := 118) (pc' := 107) dX8_isSo_104 rfl rfl (fun g => ?_) (fun g => ?_)
    · replace h := h.1 g
      refine zf_ic (v := 1) (pc' := 119) dX8_isSo_118 rfl rfl ?_
      refine zf_goto (tgt := 123) dX8_isSo_119 rfl ?_
      exact zf_rb (b := true) dX8_isSo_123 rfl h
    · replace h := h.2 g
      refine zf_ld (pc' := 108) (v := .inr (.inr (1, 63))) dX8_isSo_107 rfl (fun _ _ _ => rfl) rfl rfl rfl ?_
      refine zf_gfi (pc' := 111) dX8_isSo_108 rfl rfl (by decide) rfl rfl ?_
      refine zf_ld (pc' := 112) (v := .inr (.inr (1, 63))) dX8_isSo_111 rfl (fun _ _ _ => rfl) rfl rfl rfl ?_
      refine zf_gfi (pc' := 115) dX8_isSo_112 rfl rfl (by decide) rfl rfl ?_
      refine zf_icmp_ge (tgt := 122) (pc' := 118) dX8_isSo_115 rfl rfl (fun g => ?_) (fun g => ?_)
      · replace h := h.1 g
        refine zf_ic (v := 0) (pc' := 123) dX8_isSo_122 rfl rfl ?_
        exact zf_rb (b := false) dX8_isSo_123 rfl h
      · replace h := h.2 g
        refine zf_ic (v := 1) (pc' := 119) dX8_isSo_118 rfl rfl ?_
        refine zf_goto (tgt := 123) dX8_isSo_119 rfl ?_
        exact zf_rb (b := true) dX8_isSo_123 rfl h
  · replace h := h.2.2.2.2.2.2.1 (by omega)
    refine zf_ld (pc' := 125) (v := .inr (.inr (1, 63))) dX8_isSo_124 rfl (fun _ _ _ => rfl) rfl rfl rfl ?_
    refine zf_gfi (pc' := 128) dX8_isSo_125 rfl rfl (by decide) rfl rfl ?_
    refine zf_ld (pc' := 129) (v := .inr (.inr (1, 63))) dX8_isSo_128 rfl (fun _ _ _ => rfl) rfl rfl rfl ?_
    refine zf_gfi (pc' := 132) dX8_isSo_129 rfl rfl (by decide) rfl rfl ?_
    refine zf_icmp_ge (tgt := 139) (pc' := 135) dX8_isSo_132 rfl rfl (fun g => ?_) (fun g => ?_)
    · replace h := h.1 g
      refine zf_ic (v := 0) (pc' := 140) dX8_isSo_139 rfl rfl ?_
      exact zf_rb (b := false) dX8_isSo_140 rfl h
    · replace h := h.2 g
      refine zf_ic (v := 1) (pc' := 136) dX8_isSo_135 rfl rfl ?_
      refine zf_goto (tgt := 140) dX8_isSo_136 rfl ?_
      exact zf_rb (b := true) dX8_isSo_140 rfl h
  · replace h := h.2.2.2.2.2.2.2.1 (by omega)
    refine zf_ld (pc' := 168) (v := .inr (.inr (1, 63))) dX8_isSo_167 rfl (fun _ _ _ => rfl) rfl rfl rfl ?_
    refine zf_ld (pc' := 169) (v := .inl v1) dX8_isSo_168 rfl (fun _ _ _ => rfl) rfl rfl rfl ?_
    refine zf_bi (v := 6) (pc' := 171) dX8_isSo_169 rfl rfl ?_
    refine zf_in (pc' := 172) (S' := [.inl (v1 - 6), .inr (.inr (1, 63))]) dX8_isSo_171 rfl (fun _ _ _ => rfl) ?_
    refine zf_ld (pc' := 173) (v := .inr (.inr (1, 63))) dX8_isSo_172 rfl (fun _ _ _ => rfl) rfl rfl rfl ?_
    refine zf_gfi (pc' := 176) dX8_isSo_173 rfl rfl (by decide) rfl rfl ?_
    refine zf_iv (k := 146) (pc' := 179) (r := []) dX8_isSo_176 rfl rfl rfl rfl (by decide) rfl rfl rfl (zr_146 (by omega) h) (zf_kB (fun b5 m6 h => ?_))
    exact zf_rb (b := b5) dX8_isSo_179 rfl h
  · replace h := h.2.2.2.2.2.2.2.2.1 (by omega)
    refine zf_ld (pc' := 168) (v := .inr (.inr (1, 63))) dX8_isSo_167 rfl (fun _ _ _ => rfl) rfl rfl rfl ?_
    refine zf_ld (pc' := 169) (v := .inl v1) dX8_isSo_168 rfl (fun _ _ _ => rfl) rfl rfl rfl ?_
    refine zf_bi (v := 6) (pc' := 171) dX8_isSo_169 rfl rfl ?_
    refine zf_in (pc' := 172) (S' := [.inl (v1 - 6), .inr (.inr (1, 63))]) dX8_isSo_171 rfl (fun _ _ _ => rfl) ?_
    refine zf_ld (pc' := 173) (v := .inr (.inr (1, 63))) dX8_isSo_172 rfl (fun _ _ _ => rfl) rfl rfl rfl ?_
    refine zf_gfi (pc' := 176) dX8_isSo_173 rfl rfl (by decide) rfl rfl ?_
    refine zf_iv (k := 146) (pc' := 179) (r := []) dX8_isSo_176 rfl rfl rfl rfl (by decide) rfl rfl rfl (zr_146 (by omega) h) (zf_kB (fun b7 m8 h => ?_))
    exact zf_rb (b := b7) dX8_isSo_179 rfl h
  · replace h := h.2.2.2.2.2.2.2.2.2.1 (by omega)
    refine zf_ld (pc' := 168) (v := .inr (.inr (1, 63))) dX8_isSo_167 rfl (fun _ _ _ => rfl) rfl rfl rfl ?_
    refine zf_ld (pc' := 169) (v := .inl v1) dX8_isSo_168 rfl (fun _ _ _ => rfl) rfl rfl rfl ?_
    refine zf_bi (v := 6) (pc' := 171) dX8_isSo_169 rfl rfl ?_
    refine zf_in (pc' := 172) (S' := [.inl (v1 - 6), .inr (.inr (1, 63))]) dX8_isSo_171 rfl (fun _ _ _ => rfl) ?_
    refine zf_ld (pc' := 173) (v := .inr (.inr (1, 63))) dX8_isSo_172 rfl (fun _ _ _ => rfl) rfl rfl rfl ?_
    refine zf_gfi (pc' := 176) dX8_isSo_173 rfl rfl (by decide) rfl rfl ?_
    refine zf_iv (k := 146) (pc' := 179) (r := []) dX8_isSo_176 rfl rfl rfl rfl (by decide) rfl rfl rfl (zr_146 (by omega) h) (zf_kB (fun b9 m10 h => ?_))
    exact zf_rb (b := b9) dX8_isSo_179 rfl h
  · replace h := h.2.2.2.2.2.2.2.2.2.2.1 (by omega)
    refine zf_ld (pc' := 168) (v := .inr (.inr (1, 63))) dX8_isSo_167 rfl (fun _ _ _ => rfl) rfl rfl rfl ?_
    refine zf_ld (pc' := 169) (v := .inl v1) dX8_isSo_168 rfl (fun _ _ _ => rfl) rfl rfl rfl ?_
    refine zf_bi (v := 6) (pc' := 171) dX8_isSo_169 rfl rfl ?_
    refine zf_in (pc' := 172) (S' := [.inl (v1 - 6), .inr (.inr (1, 63))]) dX8_isSo_171 rfl (fun _ _ _ => rfl) ?_
    refine zf_ld (pc' := 173) (v := .inr (.inr (1, 63))) dX8_isSo_172 rfl (fun _ _ _ => rfl) rfl rfl rfl ?_
    refine zf_gfi (pc' := 176) dX8_isSo_173 rfl rfl (by decide) rfl rfl ?_
    refine zf_iv (k := 146) (pc' := 179) (r := []) dX8_isSo_176 rfl rfl rfl rfl (by decide) rfl rfl rfl (zr_146 (by omega) h) (zf_kB (fun b11 m12 h => ?_))
    exact zf_rb (b := b11) dX8_isSo_179 rfl h
  · replace h := h.2.2.2.2.2.2.2.2.2.2.2.1 (by omega)
    refine zf_ld (pc' := 168) (v := .inr (.inr (1, 63))) dX8_isSo_167 rfl (fun _ _ _ => rfl) rfl rfl rfl ?_
    refine zf_ld (pc' := 169) (v := .inl v1) dX8_isSo_168 rfl (fun _ _ _ => rfl) rfl rfl rfl ?_
    refine zf_bi (v := 6) (pc' := 171) dX8_isSo_169 rfl rfl ?_
    refine zf_in (pc' := 172) (S' := [.inl (v1 - 6), .inr (.inr (1, 63))]) dX8_isSo_171 rfl (fun _ _ _ => rfl) ?_
    refine zf_ld (pc' := 173) (v := .inr (.inr (1, 63))) dX8_isSo_172 rfl (fun _ _ _ => rfl) rfl rfl rfl ?_
    refine zf_gfi (pc' := 176) dX8_isSo_173 rfl rfl (by decide) rfl rfl ?_
    refine zf_iv (k := 146) (pc' := 179) (r := []) dX8_isSo_176 rfl rfl rfl rfl (by decide) rfl rfl rfl (zr_146 (by omega) h) (zf_kB (fun b13 m14 h => ?_))
    exact zf_rb (b := b13) dX8_isSo_179 rfl h
  · replace h := h.2.2.2.2.2.2.2.2.2.2.2.2 (by omega)
    refine zf_ld (pc' := 142) (v := .inr (.inr (1, 63))) dX8_isSo_141 rfl (fun _ _ _ => rfl) rfl rfl rfl ?_
    refine zf_gfi (pc' := 145) dX8_isSo_142 rfl rfl (by decide) rfl rfl ?_
    refine zf_bi (v := 9) (pc' := 147) dX8_isSo_145 rfl rfl ?_
    refine zf_icmp_gt (tgt := 165) (pc' := 150) dX8_isSo_147 rfl rfl (fun g => ?_) (fun g => ?_)
    · replace h := h.1 g
      refine zf_ic (v := 0) (pc' := 166) dX8_isSo_165 rfl rfl ?_
      exact zf_rb (b := false) dX8_isSo_166 rfl h
    · replace h := h.2 g
      refine zf_ld (pc' := 151) (v := .inr (.inr (1, 63))) dX8_isSo_150 rfl (fun _ _ _ => rfl) rfl rfl rfl ?_
      refine zf_ld (pc' := 152) (v := .inr (.inr (1, 63))) dX8_isSo_151 rfl (fun _ _ _ => rfl) rfl rfl rfl ?_
      refine zf_gfi (pc' := 155) dX8_isSo_152 rfl rfl (by decide) rfl rfl ?_
      refine zf_iv (k := 167) (pc' := 158) (r := []) dX8_isSo_155 rfl rfl rfl rfl (by decide) rfl rfl rfl (zr_167 (by omega) h) (zf_kB (fun b15 m16 h => ?_))
      refine zf_ib_eq (tgt := 165) (pc' := 161) dX8_isSo_158 rfl rfl (fun g => ?_) (fun g => ?_)
      · replace h := h.1 g
        refine zf_ic (v := 0) (pc' := 166) dX8_isSo_165 rfl rfl ?_
        exact zf_rb (b := false) dX8_isSo_166 rfl h
      · replace h := h.2 g
        refine zf_ic (v := 1) (pc' := 162) dX8_isSo_161 rfl rfl ?_
        refine zf_goto (tgt := 166) dX8_isSo_162 rfl ?_
        exact zf_rb (b := true) dX8_isSo_166 rfl h
def zt_168 : zx_MT := (8, yX8_rests, cX8_rests, 3, none, 2, 0)
theorem zm_168 : zx_m 168 = zt_168 := rfl
theorem dX8_rests_r0 : zdcP cX8_rests 0 [(.aload_n 0, 1), (.getfield 53, 3), (.iload_n 1, 1), (.aload_n 0, 1), (.getfield 53, 3), (.iload_n 1, 1), (.iaload, 1), (.iload_n 2, 1), (.if_icmp .le 14, 3), (.aload_n 0, 1), (.getfield 53, 3), (.iload_n 1, 1), (.iaload, 1), (.iload_n 2, 1), (.isub, 1), (.goto 4, 3)] := zdcA_ok (by decide +kernel)
theorem dX8_rests_0 : decode cX8_rests 0 = .ok (.aload_n 0, 1) := dX8_rests_r0.1
theorem dX8_rests_1 : decode cX8_rests 1 = .ok (.getfield 53, 3) := dX8_rests_r0.2.1
theorem dX8_rests_4 : decode cX8_rests 4 = .ok (.iload_n 1, 1) := dX8_rests_r0.2.2.1
theorem dX8_rests_5 : decode cX8_rests 5 = .ok (.aload_n 0, 1) := dX8_rests_r0.2.2.2.1
theorem dX8_rests_6 : decode cX8_rests 6 = .ok (.getfield 53, 3) := dX8_rests_r0.2.2.2.2.1
theorem dX8_rests_9 : decode cX8_rests 9 = .ok (.iload_n 1, 1) := dX8_rests_r0.2.2.2.2.2.1
theorem dX8_rests_10 : decode cX8_rests 10 = .ok (.iaload, 1) := dX8_rests_r0.2.2.2.2.2.2.1
theorem dX8_rests_11 : decode cX8_rests 11 = .ok (.iload_n 2, 1) := dX8_rests_r0.2.2.2.2.2.2.2.1
theorem dX8_rests_12 : decode cX8_rests 12 = .ok (.if_icmp .le 14, 3) := dX8_rests_r0.2.2.2.2.2.2.2.2.1
theorem dX8_rests_15 : decode cX8_rests 15 = .ok (.aload_n 0, 1) := dX8_rests_r0.2.2.2.2.2.2.2.2.2.1
theorem dX8_rests_16 : decode cX8_rests 16 = .ok (.getfield 53, 3) := dX8_rests_r0.2.2.2.2.2.2.2.2.2.2.1
theorem dX8_rests_19 : decode cX8_rests 19 = .ok (.iload_n 1, 1) := dX8_rests_r0.2.2.2.2.2.2.2.2.2.2.2.1
theorem dX8_rests_20 : decode cX8_rests 20 = .ok (.iaload, 1) := dX8_rests_r0.2.2.2.2.2.2.2.2.2.2.2.2.1
theorem dX8_rests_21 : decode cX8_rests 21 = .ok (.iload_n 2, 1) := dX8_rests_r0.2.2.2.2.2.2.2.2.2.2.2.2.2.1
theorem dX8_rests_22 : decode cX8_rests 22 = .ok (.isub, 1) := dX8_rests_r0.2.2.2.2.2.2.2.2.2.2.2.2.2.2.1
theorem dX8_rests_23 : decode cX8_rests 23 = .ok (.goto 4, 3) := dX8_rests_r0.2.2.2.2.2.2.2.2.2.2.2.2.2.2.2.1
theorem dX8_rests_r26 : zdcP cX8_rests 26 [(.iconst 0, 1), (.iastore, 1), (.return_, 1)] := zdcA_ok (by decide +kernel)
theorem dX8_rests_26 : decode cX8_rests 26 = .ok (.iconst 0, 1) := dX8_rests_r26.1
theorem dX8_rests_27 : decode cX8_rests 27 = .ok (.iastore, 1) := dX8_rests_r26.2.1
theorem dX8_rests_28 : decode cX8_rests 28 = .ok (.return_, 1) := dX8_rests_r26.2.2.1
def wp_168 (v1 : Int32) (v2 : Int32) (m : zf_Me) (Q : zf_Me → Prop) : Prop := ((0 ≤ (Int32.toInt v1) ∧ (Int32.toInt v1) < (6 : Int)) ∧ ((((m.1 69 (Int32.toInt v1).toNat)).toInt ≤ v2.toInt → ((0 ≤ (Int32.toInt v1) ∧ (Int32.toInt v1) < (6 : Int)) ∧ ∀ m1, m1 = zf_u m 69 (Int32.toInt v1).toNat 0 → Q m1)) ∧ (((m.1 69 (Int32.toInt v1).toNat)).toInt > v2.toInt → ((0 ≤ (Int32.toInt v1) ∧ (Int32.toInt v1) < (6 : Int)) ∧ ((0 ≤ (Int32.toInt v1) ∧ (Int32.toInt v1) < (6 : Int)) ∧ ∀ m3, m3 = zf_u m 69 (Int32.toInt v1).toNat ((m.1 69 (Int32.toInt v1).toNat) - v2) → Q m3)))))
theorem zr_168 {d : Nat} (hd : 0 ≤ d) {v1 : Int32} {v2 : Int32} {Q : zf_Me → Prop} {m : zf_Me} (h : wp_168 v1 v2 m Q) : zf_M d 168 [.inr (.inr (1, 63)), .inl v1, .inl v2] m (zf_O Q) := by
  unfold wp_168 at h
  refine zf_M_of (Nat.le_of_ble_eq_true rfl) zm_168 (L := [some (.inr (.inr (1, 63))), some (.inl v1), some (.inl v2)]) rfl ?_
  refine zf_ld (pc' := 1) (v := .inr (.inr (1, 63))) dX8_rests_0 rfl (fun _ _ _ => rfl) rfl rfl rfl ?_
  refine zf_gfr (pc' := 4) (b := 69) dX8_rests_1 rfl rfl (by decide) rfl rfl ?_
  refine zf_ld (pc' := 5) (v := .inl v1) dX8_rests_4 rfl (fun _ _ _ => rfl) rfl rfl rfl ?_
  refine zf_ld (pc' := 6) (v := .inr (.inr (1, 63))) dX8_rests_5 rfl (fun _ _ _ => rfl) rfl rfl rfl ?_
  refine zf_gfr (pc' := 9) (b := 69) dX8_rests_6 rfl rfl (by decide) rfl rfl ?_
  refine zf_ld (pc' := 10) (v := .inl v1) dX8_rests_9 rfl (fun _ _ _ => rfl) rfl rfl rfl ?_
  refine zf_ial (pc' := 11) dX8_rests_10 rfl (⟨by decide, rfl⟩ : zf_arr 69 6).1 (⟨by decide, rfl⟩ : zf_arr 69 6).2 h.1 rfl ?_
  replace h := h.2
  refine zf_ld (pc' := 12) (v := .inl v2) dX8_rests_11 rfl (fun _ _ _ => rfl) rfl rfl rfl ?_
  refine zf_icmp_le (tgt := 26) (pc' := 15) dX8_rests_12 rfl rfl (fun g => ?_) (fun g => ?_)
  · replace h := h.1 g
    refine zf_ic (v := 0) (pc' := 27) dX8_rests_26 rfl rfl ?_
    refine zf_ias (pc' := 28) dX8_rests_27 rfl (⟨by decide, rfl⟩ : zf_arr 69 6).1 (⟨by decide, rfl⟩ : zf_arr 69 6).2 h.1 rfl (fun m1 e2 => ?_)
    replace h := h.2 m1 e2
    exact zf_rv dX8_rests_28 rfl h
  · replace h := h.2 g
    refine zf_ld (pc' := 16) (v := .inr (.inr (1, 63))) dX8_rests_15 rfl (fun _ _ _ => rfl) rfl rfl rfl ?_
    refine zf_gfr (pc' := 19) (b := 69) dX8_rests_16 rfl rfl (by decide) rfl rfl ?_
    refine zf_ld (pc' := 20) (v := .inl v1) dX8_rests_19 rfl (fun _ _ _ => rfl) rfl rfl rfl ?_
    refine zf_ial (pc' := 21) dX8_rests_20 rfl (⟨by decide, rfl⟩ : zf_arr 69 6).1 (⟨by decide, rfl⟩ : zf_arr 69 6).2 h.1 rfl ?_
    replace h := h.2
    refine zf_ld (pc' := 22) (v := .inl v2) dX8_rests_21 rfl (fun _ _ _ => rfl) rfl rfl rfl ?_
    refine zf_in (pc' := 23) (S' := [.inl ((m.1 69 (Int32.toInt v1).toNat) - v2), .inl v1, .inr (.inr (1, 69))]) dX8_rests_22 rfl (fun _ _ _ => rfl) ?_
    refine zf_goto (tgt := 27) dX8_rests_23 rfl ?_
    refine zf_ias (pc' := 28) dX8_rests_27 rfl (⟨by decide, rfl⟩ : zf_arr 69 6).1 (⟨by decide, rfl⟩ : zf_arr 69 6).2 h.1 rfl (fun m3 e4 => ?_)
    replace h := h.2 m3 e4
    exact zf_rv dX8_rests_28 rfl h
def zt_169 : zx_MT := (8, yX8_acts, cX8_acts, 5, none, 1, 0)
theorem zm_169 : zx_m 169 = zt_169 := rfl
theorem dX8_acts_r0 : zdcP cX8_acts 0 [(.iload_n 1, 1), (.bipush 9, 2), (.if_icmp .ne 62, 3), (.aload_n 0, 1), (.dup, 1), (.getfield 210, 3), (.bipush 10, 2), (.iadd, 1), (.putfield 210, 3), (.iconst 0, 1), (.istore_n 2, 1), (.iload_n 2, 1), (.aload_n 0, 1), (.getfield 105, 3), (.if_icmp .ge 16, 3), (.aload_n 0, 1)] := zdcA_ok (by decide +kernel)
theorem dX8_acts_0 : decode cX8_acts 0 = .ok (.iload_n 1, 1) := dX8_acts_r0.1
theorem dX8_acts_1 : decode cX8_acts 1 = .ok (.bipush 9, 2) := dX8_acts_r0.2.1
theorem dX8_acts_3 : decode cX8_acts 3 = .ok (.if_icmp .ne 62, 3) := dX8_acts_r0.2.2.1
theorem dX8_acts_6 : decode cX8_acts 6 = .ok (.aload_n 0, 1) := dX8_acts_r0.2.2.2.1
theorem dX8_acts_7 : decode cX8_acts 7 = .ok (.dup, 1) := dX8_acts_r0.2.2.2.2.1
theorem dX8_acts_8 : decode cX8_acts 8 = .ok (.getfield 210, 3) := dX8_acts_r0.2.2.2.2.2.1
theorem dX8_acts_11 : decode cX8_acts 11 = .ok (.bipush 10, 2) := dX8_acts_r0.2.2.2.2.2.2.1
theorem dX8_acts_13 : decode cX8_acts 13 = .ok (.iadd, 1) := dX8_acts_r0.2.2.2.2.2.2.2.1
theorem dX8_acts_14 : decode cX8_acts 14 = .ok (.putfield 210, 3) := dX8_acts_r0.2.2.2.2.2.2.2.2.1
theorem dX8_acts_17 : decode cX8_acts 17 = .ok (.iconst 0, 1) := dX8_acts_r0.2.2.2.2.2.2.2.2.2.1
theorem dX8_acts_18 : decode cX8_acts 18 = .ok (.istore_n 2, 1) := dX8_acts_r0.2.2.2.2.2.2.2.2.2.2.1
theorem dX8_acts_19 : decode cX8_acts 19 = .ok (.iload_n 2, 1) := dX8_acts_r0.2.2.2.2.2.2.2.2.2.2.2.1
theorem dX8_acts_20 : decode cX8_acts 20 = .ok (.aload_n 0, 1) := dX8_acts_r0.2.2.2.2.2.2.2.2.2.2.2.2.1
theorem dX8_acts_21 : decode cX8_acts 21 = .ok (.getfield 105, 3) := dX8_acts_r0.2.2.2.2.2.2.2.2.2.2.2.2.2.1
theorem dX8_acts_24 : decode cX8_acts 24 = .ok (.if_icmp .ge 16, 3) := dX8_acts_r0.2.2.2.2.2.2.2.2.2.2.2.2.2.2.1
theorem dX8_acts_27 : decode cX8_acts 27 = .ok (.aload_n 0, 1) := dX8_acts_r0.2.2.2.2.2.2.2.2.2.2.2.2.2.2.2.1
theorem dX8_acts_r28 : zdcP cX8_acts 28 [(.iload_n 2, 1), (.bipush 6, 2), (.invokevirtual 223, 3), (.iinc 2 1, 3), (.goto (-18), 3), (.aload_n 0, 1), (.iconst 0, 1), (.putfield 204, 3), (.aload_n 0, 1), (.getfield 13, 3), (.aload_n 0, 1), (.getfield 16, 3), (.if_icmp .ge 11, 3), (.aload_n 0, 1), (.aload_n 0, 1), (.getfield 16, 3)] := zdcA_ok (by decide +kernel)
theorem dX8_acts_28 : decode cX8_acts 28 = .ok (.iload_n 2, 1) := dX8_acts_r28.1
theorem dX8_acts_29 : decode cX8_acts 29 = .ok (.bipush 6, 2) := dX8_acts_r28.2.1
theorem dX8_acts_31 : decode cX8_acts 31 = .ok (.invokevirtual 223, 3) := dX8_acts_r28.2.2.1
theorem dX8_acts_34 : decode cX8_acts 34 = .ok (.iinc 2 1, 3) := dX8_acts_r28.2.2.2.1
theorem dX8_acts_37 : decode cX8_acts 37 = .ok (.goto (-18), 3) := dX8_acts_r28.2.2.2.2.1
theorem dX8_acts_40 : decode cX8_acts 40 = .ok (.aload_n 0, 1) := dX8_acts_r28.2.2.2.2.2.1
theorem dX8_acts_41 : decode cX8_acts 41 = .ok (.iconst 0, 1) := dX8_acts_r28.2.2.2.2.2.2.1
theorem dX8_acts_42 : decode cX8_acts 42 = .ok (.putfield 204, 3) := dX8_acts_r28.2.2.2.2.2.2.2.1
theorem dX8_acts_45 : decode cX8_acts 45 = .ok (.aload_n 0, 1) := dX8_acts_r28.2.2.2.2.2.2.2.2.1
theorem dX8_acts_46 : decode cX8_acts 46 = .ok (.getfield 13, 3) := dX8_acts_r28.2.2.2.2.2.2.2.2.2.1
theorem dX8_acts_49 : decode cX8_acts 49 = .ok (.aload_n 0, 1) := dX8_acts_r28.2.2.2.2.2.2.2.2.2.2.1
theorem dX8_acts_50 : decode cX8_acts 50 = .ok (.getfield 16, 3) := dX8_acts_r28.2.2.2.2.2.2.2.2.2.2.2.1
theorem dX8_acts_53 : decode cX8_acts 53 = .ok (.if_icmp .ge 11, 3) := dX8_acts_r28.2.2.2.2.2.2.2.2.2.2.2.2.1
theorem dX8_acts_56 : decode cX8_acts 56 = .ok (.aload_n 0, 1) := dX8_acts_r28.2.2.2.2.2.2.2.2.2.2.2.2.2.1
theorem dX8_acts_57 : decode cX8_acts 57 = .ok (.aload_n 0, 1) := dX8_acts_r28.2.2.2.2.2.2.2.2.2.2.2.2.2.2.1
theorem dX8_acts_58 : decode cX8_acts 58 = .ok (.getfield 16, 3) := dX8_acts_r28.2.2.2.2.2.2.2.2.2.2.2.2.2.2.2.1
theorem dX8_acts_r61 : zdcP cX8_acts 61 [(.putfield 13, 3), (.return_, 1), (.aload_n 0, 1), (.getfield 41, 3), (.aload_n 0, 1), (.getfield 207, 3), (.iaload, 1), (.istore_n 2, 1), (.iload_n 1, 1), (.bipush 6, 2), (.if_icmp .ge 80, 3), (.aload_n 0, 1), (.getfield 53, 3), (.iload_n 1, 1), (.dup2, 1), (.iaload, 1)] := zdcA_ok (by decide +kernel)
theorem dX8_acts_61 : decode cX8_acts 61 = .ok (.putfield 13, 3) := dX8_acts_r61.1
theorem dX8_acts_64 : decode cX8_acts 64 = .ok (.return_, 1) := dX8_acts_r61.2.1
theorem dX8_acts_65 : decode cX8_acts 65 = .ok (.aload_n 0, 1) := dX8_acts_r61.2.2.1
theorem dX8_acts_66 : decode cX8_acts 66 = .ok (.getfield 41, 3) := dX8_acts_r61.2.2.2.1
theorem dX8_acts_69 : decode cX8_acts 69 = .ok (.aload_n 0, 1) := dX8_acts_r61.2.2.2.2.1
theorem dX8_acts_70 : decode cX8_acts 70 = .ok (.getfield 207, 3) := dX8_acts_r61.2.2.2.2.2.1
theorem dX8_acts_73 : decode cX8_acts 73 = .ok (.iaload, 1) := dX8_acts_r61.2.2.2.2.2.2.1
theorem dX8_acts_74 : decode cX8_acts 74 = .ok (.istore_n 2, 1) := dX8_acts_r61.2.2.2.2.2.2.2.1
theorem dX8_acts_75 : decode cX8_acts 75 = .ok (.iload_n 1, 1) := dX8_acts_r61.2.2.2.2.2.2.2.2.1
theorem dX8_acts_76 : decode cX8_acts 76 = .ok (.bipush 6, 2) := dX8_acts_r61.2.2.2.2.2.2.2.2.2.1
theorem dX8_acts_78 : decode cX8_acts 78 = .ok (.if_icmp .ge 80, 3) := dX8_acts_r61.2.2.2.2.2.2.2.2.2.2.1
theorem dX8_acts_81 : decode cX8_acts 81 = .ok (.aload_n 0, 1) := dX8_acts_r61.2.2.2.2.2.2.2.2.2.2.2.1
theorem dX8_acts_82 : decode cX8_acts 82 = .ok (.getfield 53, 3) := dX8_acts_r61.2.2.2.2.2.2.2.2.2.2.2.2.1
theorem dX8_acts_85 : decode cX8_acts 85 = .ok (.iload_n 1, 1) := dX8_acts_r61.2.2.2.2.2.2.2.2.2.2.2.2.2.1
theorem dX8_acts_86 : decode cX8_acts 86 = .ok (.dup2, 1) := dX8_acts_r61.2.2.2.2.2.2.2.2.2.2.2.2.2.2.1
theorem dX8_acts_87 : decode cX8_acts 87 = .ok (.iaload, 1) := dX8_acts_r61.2.2.2.2.2.2.2.2.2.2.2.2.2.2.2.1
theorem dX8_acts_r88 : zdcP cX8_acts 88 [(.aload_n 0, 1), (.iload_n 1, 1), (.iload_n 2, 1), (.invokevirtual 126, 3), (.iadd, 1), (.iastore, 1), (.aload_n 0, 1), (.dup, 1), (.getfield 204, 3), (.iconst 1, 1), (.iadd, 1), (.putfield 204, 3), (.aload_n 0, 1), (.getfield 204, 3), (.iconst 2, 1), (.irem, 1)] := zdcA_ok (by decide +kernel)
theorem dX8_acts_88 : decode cX8_acts 88 = .ok (.aload_n 0, 1) := dX8_acts_r88.1
theorem dX8_acts_89 : decode cX8_acts 89 = .ok (.iload_n 1, 1) := dX8_acts_r88.2.1
theorem dX8_acts_90 : decode cX8_acts 90 = .ok (.iload_n 2, 1) := dX8_acts_r88.2.2.1
theorem dX8_acts_91 : decode cX8_acts 91 = .ok (.invokevirtual 126, 3) := dX8_acts_r88.2.2.2.1
theorem dX8_acts_94 : decode cX8_acts 94 = .ok (.iadd, 1) := dX8_acts_r88.2.2.2.2.1
theorem dX8_acts_95 : decode cX8_acts 95 = .ok (.iastore, 1) := dX8_acts_r88.2.2.2.2.2.1
theorem dX8_acts_96 : decode cX8_acts 96 = .ok (.aload_n 0, 1) := dX8_acts_r88.2.2.2.2.2.2.1
theorem dX8_acts_97 : decode cX8_acts 97 = .ok (.dup, 1) := dX8_acts_r88.2.2.2.2.2.2.2.1
theorem dX8_acts_98 : decode cX8_acts 98 = .ok (.getfield 204, 3) := dX8_acts_r88.2.2.2.2.2.2.2.2.1
theorem dX8_acts_101 : decode cX8_acts 101 = .ok (.iconst 1, 1) := dX8_acts_r88.2.2.2.2.2.2.2.2.2.1
theorem dX8_acts_102 : decode cX8_acts 102 = .ok (.iadd, 1) := dX8_acts_r88.2.2.2.2.2.2.2.2.2.2.1
theorem dX8_acts_103 : decode cX8_acts 103 = .ok (.putfield 204, 3) := dX8_acts_r88.2.2.2.2.2.2.2.2.2.2.2.1
theorem dX8_acts_106 : decode cX8_acts 106 = .ok (.aload_n 0, 1) := dX8_acts_r88.2.2.2.2.2.2.2.2.2.2.2.2.1
theorem dX8_acts_107 : decode cX8_acts 107 = .ok (.getfield 204, 3) := dX8_acts_r88.2.2.2.2.2.2.2.2.2.2.2.2.2.1
theorem dX8_acts_110 : decode cX8_acts 110 = .ok (.iconst 2, 1) := dX8_acts_r88.2.2.2.2.2.2.2.2.2.2.2.2.2.2.1
theorem dX8_acts_111 : decode cX8_acts 111 = .ok (.irem, 1) := dX8_acts_r88.2.2.2.2.2.2.2.2.2.2.2.2.2.2.2.1
theorem dX8_acts_r112 : zdcP cX8_acts 112 [(.ifCond .ne 24, 3), (.aload_n 0, 1), (.getfield 13, 3), (.aload_n 0, 1), (.getfield 16, 3), (.if_icmp .ge 13, 3), (.aload_n 0, 1), (.dup, 1), (.getfield 13, 3), (.iconst 1, 1), (.iadd, 1), (.putfield 13, 3), (.bipush 6, 2), (.iload_n 2, 1), (.iadd, 1), (.aload_n 0, 1)] := zdcA_ok (by decide +kernel)
theorem dX8_acts_112 : decode cX8_acts 112 = .ok (.ifCond .ne 24, 3) := dX8_acts_r112.1
theorem dX8_acts_115 : decode cX8_acts 115 = .ok (.aload_n 0, 1) := dX8_acts_r112.2.1
theorem dX8_acts_116 : decode cX8_acts 116 = .ok (.getfield 13, 3) := dX8_acts_r112.2.2.1
theorem dX8_acts_119 : decode cX8_acts 119 = .ok (.aload_n 0, 1) := dX8_acts_r112.2.2.2.1
theorem dX8_acts_120 : decode cX8_acts 120 = .ok (.getfield 16, 3) := dX8_acts_r112.2.2.2.2.1
theorem dX8_acts_123 : decode cX8_acts 123 = .ok (.if_icmp .ge 13, 3) := dX8_acts_r112.2.2.2.2.2.1
theorem dX8_acts_126 : decode cX8_acts 126 = .ok (.aload_n 0, 1) := dX8_acts_r112.2.2.2.2.2.2.1
theorem dX8_acts_127 : decode cX8_acts 127 = .ok (.dup, 1) := dX8_acts_r112.2.2.2.2.2.2.2.1
theorem dX8_acts_128 : decode cX8_acts 128 = .ok (.getfield 13, 3) := dX8_acts_r112.2.2.2.2.2.2.2.2.1
theorem dX8_acts_131 : decode cX8_acts 131 = .ok (.iconst 1, 1) := dX8_acts_r112.2.2.2.2.2.2.2.2.2.1
theorem dX8_acts_132 : decode cX8_acts 132 = .ok (.iadd, 1) := dX8_acts_r112.2.2.2.2.2.2.2.2.2.2.1
theorem dX8_acts_133 : decode cX8_acts 133 = .ok (.putfield 13, 3) := dX8_acts_r112.2.2.2.2.2.2.2.2.2.2.2.1
theorem dX8_acts_136 : decode cX8_acts 136 = .ok (.bipush 6, 2) := dX8_acts_r112.2.2.2.2.2.2.2.2.2.2.2.2.1
theorem dX8_acts_138 : decode cX8_acts 138 = .ok (.iload_n 2, 1) := dX8_acts_r112.2.2.2.2.2.2.2.2.2.2.2.2.2.1
theorem dX8_acts_139 : decode cX8_acts 139 = .ok (.iadd, 1) := dX8_acts_r112.2.2.2.2.2.2.2.2.2.2.2.2.2.2.1
theorem dX8_acts_140 : decode cX8_acts 140 = .ok (.aload_n 0, 1) := dX8_acts_r112.2.2.2.2.2.2.2.2.2.2.2.2.2.2.2.1
theorem dX8_acts_r141 : zdcP cX8_acts 141 [(.getfield 204, 3), (.iconst 1, 1), (.if_icmp .ne 7, 3), (.iconst 1, 1), (.goto 4, 3), (.iconst 0, 1), (.iadd, 1), (.istore_n 3, 1), (.goto 123, 3), (.iload_n 1, 1), (.bipush 7, 2), (.if_icmp .ne 47, 3), (.aload_n 0, 1), (.dup, 1), (.getfield 22, 3), (.iconst 1, 1)] := zdcA_ok (by decide +kernel)
theorem dX8_acts_141 : decode cX8_acts 141 = .ok (.getfield 204, 3) := dX8_acts_r141.1
theorem dX8_acts_144 : decode cX8_acts 144 = .ok (.iconst 1, 1) := dX8_acts_r141.2.1
theorem dX8_acts_145 : decode cX8_acts 145 = .ok (.if_icmp .ne 7, 3) := dX8_acts_r141.2.2.1
theorem dX8_acts_148 : decode cX8_acts 148 = .ok (.iconst 1, 1) := dX8_acts_r141.2.2.2.1
theorem dX8_acts_149 : decode cX8_acts 149 = .ok (.goto 4, 3) := dX8_acts_r141.2.2.2.2.1
theorem dX8_acts_152 : decode cX8_acts 152 = .ok (.iconst 0, 1) := dX8_acts_r141.2.2.2.2.2.1
theorem dX8_acts_153 : decode cX8_acts 153 = .ok (.iadd, 1) := dX8_acts_r141.2.2.2.2.2.2.1
theorem dX8_acts_154 : decode cX8_acts 154 = .ok (.istore_n 3, 1) := dX8_acts_r141.2.2.2.2.2.2.2.1
theorem dX8_acts_155 : decode cX8_acts 155 = .ok (.goto 123, 3) := dX8_acts_r141.2.2.2.2.2.2.2.2.1
theorem dX8_acts_158 : decode cX8_acts 158 = .ok (.iload_n 1, 1) := dX8_acts_r141.2.2.2.2.2.2.2.2.2.1
theorem dX8_acts_159 : decode cX8_acts 159 = .ok (.bipush 7, 2) := dX8_acts_r141.2.2.2.2.2.2.2.2.2.2.1
theorem dX8_acts_161 : decode cX8_acts 161 = .ok (.if_icmp .ne 47, 3) := dX8_acts_r141.2.2.2.2.2.2.2.2.2.2.2.1
theorem dX8_acts_164 : decode cX8_acts 164 = .ok (.aload_n 0, 1) := dX8_acts_r141.2.2.2.2.2.2.2.2.2.2.2.2.1
theorem dX8_acts_165 : decode cX8_acts 165 = .ok (.dup, 1) := dX8_acts_r141.2.2.2.2.2.2.2.2.2.2.2.2.2.1
theorem dX8_acts_166 : decode cX8_acts 166 = .ok (.getfield 22, 3) := dX8_acts_r141.2.2.2.2.2.2.2.2.2.2.2.2.2.2.1
theorem dX8_acts_169 : decode cX8_acts 169 = .ok (.iconst 1, 1) := dX8_acts_r141.2.2.2.2.2.2.2.2.2.2.2.2.2.2.2.1
theorem dX8_acts_r170 : zdcP cX8_acts 170 [(.isub, 1), (.putfield 22, 3), (.aload_n 0, 1), (.aload_n 0, 1), (.getfield 13, 3), (.iconst 2, 1), (.iadd, 1), (.aload_n 0, 1), (.getfield 16, 3), (.iconst 2, 1), (.iadd, 1), (.if_icmp .le 12, 3), (.aload_n 0, 1), (.getfield 16, 3), (.iconst 2, 1), (.iadd, 1)] := zdcA_ok (by decide +kernel)
theorem dX8_acts_170 : decode cX8_acts 170 = .ok (.isub, 1) := dX8_acts_r170.1
theorem dX8_acts_171 : decode cX8_acts 171 = .ok (.putfield 22, 3) := dX8_acts_r170.2.1
theorem dX8_acts_174 : decode cX8_acts 174 = .ok (.aload_n 0, 1) := dX8_acts_r170.2.2.1
theorem dX8_acts_175 : decode cX8_acts 175 = .ok (.aload_n 0, 1) := dX8_acts_r170.2.2.2.1
theorem dX8_acts_176 : decode cX8_acts 176 = .ok (.getfield 13, 3) := dX8_acts_r170.2.2.2.2.1
theorem dX8_acts_179 : decode cX8_acts 179 = .ok (.iconst 2, 1) := dX8_acts_r170.2.2.2.2.2.1
theorem dX8_acts_180 : decode cX8_acts 180 = .ok (.iadd, 1) := dX8_acts_r170.2.2.2.2.2.2.1
theorem dX8_acts_181 : decode cX8_acts 181 = .ok (.aload_n 0, 1) := dX8_acts_r170.2.2.2.2.2.2.2.1
theorem dX8_acts_182 : decode cX8_acts 182 = .ok (.getfield 16, 3) := dX8_acts_r170.2.2.2.2.2.2.2.2.1
theorem dX8_acts_185 : decode cX8_acts 185 = .ok (.iconst 2, 1) := dX8_acts_r170.2.2.2.2.2.2.2.2.2.1
theorem dX8_acts_186 : decode cX8_acts 186 = .ok (.iadd, 1) := dX8_acts_r170.2.2.2.2.2.2.2.2.2.2.1
theorem dX8_acts_187 : decode cX8_acts 187 = .ok (.if_icmp .le 12, 3) := dX8_acts_r170.2.2.2.2.2.2.2.2.2.2.2.1
theorem dX8_acts_190 : decode cX8_acts 190 = .ok (.aload_n 0, 1) := dX8_acts_r170.2.2.2.2.2.2.2.2.2.2.2.2.1
theorem dX8_acts_191 : decode cX8_acts 191 = .ok (.getfield 16, 3) := dX8_acts_r170.2.2.2.2.2.2.2.2.2.2.2.2.2.1
theorem dX8_acts_194 : decode cX8_acts 194 = .ok (.iconst 2, 1) := dX8_acts_r170.2.2.2.2.2.2.2.2.2.2.2.2.2.2.1
theorem dX8_acts_195 : decode cX8_acts 195 = .ok (.iadd, 1) := dX8_acts_r170.2.2.2.2.2.2.2.2.2.2.2.2.2.2.2.1
theorem dX8_acts_r196 : zdcP cX8_acts 196 [(.goto 9, 3), (.aload_n 0, 1), (.getfield 13, 3), (.iconst 2, 1), (.iadd, 1), (.putfield 13, 3), (.iload_n 1, 1), (.bipush 8, 2), (.if_icmp .ne 47, 3), (.aload_n 0, 1), (.dup, 1), (.getfield 25, 3), (.iconst 1, 1), (.isub, 1), (.putfield 25, 3), (.aload_n 0, 1)] := zdcA_ok (by decide +kernel)
theorem dX8_acts_196 : decode cX8_acts 196 = .ok (.goto 9, 3) := dX8_acts_r196.1
theorem dX8_acts_199 : decode cX8_acts 199 = .ok (.aload_n 0, 1) := dX8_acts_r196.2.1
theorem dX8_acts_200 : decode cX8_acts 200 = .ok (.getfield 13, 3) := dX8_acts_r196.2.2.1
theorem dX8_acts_203 : decode cX8_acts 203 = .ok (.iconst 2, 1) := dX8_acts_r196.2.2.2.1
theorem dX8_acts_204 : decode cX8_acts 204 = .ok (.iadd, 1) := dX8_acts_r196.2.2.2.2.1
theorem dX8_acts_205 : decode cX8_acts 205 = .ok (.putfield 13, 3) := dX8_acts_r196.2.2.2.2.2.1
theorem dX8_acts_208 : decode cX8_acts 208 = .ok (.iload_n 1, 1) := dX8_acts_r196.2.2.2.2.2.2.1
theorem dX8_acts_209 : decode cX8_acts 209 = .ok (.bipush 8, 2) := dX8_acts_r196.2.2.2.2.2.2.2.1
theorem dX8_acts_211 : decode cX8_acts 211 = .ok (.if_icmp .ne 47, 3) := dX8_acts_r196.2.2.2.2.2.2.2.2.1
theorem dX8_acts_214 : decode cX8_acts 214 = .ok (.aload_n 0, 1) := dX8_acts_r196.2.2.2.2.2.2.2.2.2.1
theorem dX8_acts_215 : decode cX8_acts 215 = .ok (.dup, 1) := dX8_acts_r196.2.2.2.2.2.2.2.2.2.2.1
theorem dX8_acts_216 : decode cX8_acts 216 = .ok (.getfield 25, 3) := dX8_acts_r196.2.2.2.2.2.2.2.2.2.2.2.1
theorem dX8_acts_219 : decode cX8_acts 219 = .ok (.iconst 1, 1) := dX8_acts_r196.2.2.2.2.2.2.2.2.2.2.2.2.1
theorem dX8_acts_220 : decode cX8_acts 220 = .ok (.isub, 1) := dX8_acts_r196.2.2.2.2.2.2.2.2.2.2.2.2.2.1
theorem dX8_acts_221 : decode cX8_acts 221 = .ok (.putfield 25, 3) := dX8_acts_r196.2.2.2.2.2.2.2.2.2.2.2.2.2.2.1
theorem dX8_acts_224 : decode cX8_acts 224 = .ok (.aload_n 0, 1) := dX8_acts_r196.2.2.2.2.2.2.2.2.2.2.2.2.2.2.2.1
theorem dX8_acts_r225 : zdcP cX8_acts 225 [(.aload_n 0, 1), (.getfield 13, 3), (.iconst 1, 1), (.iadd, 1), (.aload_n 0, 1), (.getfield 16, 3), (.iconst 2, 1), (.iadd, 1), (.if_icmp .le 12, 3), (.aload_n 0, 1), (.getfield 16, 3), (.iconst 2, 1), (.iadd, 1), (.goto 9, 3), (.aload_n 0, 1), (.getfield 13, 3)] := zdcA_ok (by decide +kernel)
theorem dX8_acts_225 : decode cX8_acts 225 = .ok (.aload_n 0, 1) := dX8_acts_r225.1
theorem dX8_acts_226 : decode cX8_acts 226 = .ok (.getfield 13, 3) := dX8_acts_r225.2.1
theorem dX8_acts_229 : decode cX8_acts 229 = .ok (.iconst 1, 1) := dX8_acts_r225.2.2.1
theorem dX8_acts_230 : decode cX8_acts 230 = .ok (.iadd, 1) := dX8_acts_r225.2.2.2.1
theorem dX8_acts_231 : decode cX8_acts 231 = .ok (.aload_n 0, 1) := dX8_acts_r225.2.2.2.2.1
theorem dX8_acts_232 : decode cX8_acts 232 = .ok (.getfield 16, 3) := dX8_acts_r225.2.2.2.2.2.1
theorem dX8_acts_235 : decode cX8_acts 235 = .ok (.iconst 2, 1) := dX8_acts_r225.2.2.2.2.2.2.1
theorem dX8_acts_236 : decode cX8_acts 236 = .ok (.iadd, 1) := dX8_acts_r225.2.2.2.2.2.2.2.1
theorem dX8_acts_237 : decode cX8_acts 237 = .ok (.if_icmp .le 12, 3) := dX8_acts_r225.2.2.2.2.2.2.2.2.1
theorem dX8_acts_240 : decode cX8_acts 240 = .ok (.aload_n 0, 1) := dX8_acts_r225.2.2.2.2.2.2.2.2.2.1
theorem dX8_acts_241 : decode cX8_acts 241 = .ok (.getfield 16, 3) := dX8_acts_r225.2.2.2.2.2.2.2.2.2.2.1
theorem dX8_acts_244 : decode cX8_acts 244 = .ok (.iconst 2, 1) := dX8_acts_r225.2.2.2.2.2.2.2.2.2.2.2.1
theorem dX8_acts_245 : decode cX8_acts 245 = .ok (.iadd, 1) := dX8_acts_r225.2.2.2.2.2.2.2.2.2.2.2.2.1
theorem dX8_acts_246 : decode cX8_acts 246 = .ok (.goto 9, 3) := dX8_acts_r225.2.2.2.2.2.2.2.2.2.2.2.2.2.1
theorem dX8_acts_249 : decode cX8_acts 249 = .ok (.aload_n 0, 1) := dX8_acts_r225.2.2.2.2.2.2.2.2.2.2.2.2.2.2.1
theorem dX8_acts_250 : decode cX8_acts 250 = .ok (.getfield 13, 3) := dX8_acts_r225.2.2.2.2.2.2.2.2.2.2.2.2.2.2.2.1
theorem dX8_acts_r253 : zdcP cX8_acts 253 [(.iconst 1, 1), (.iadd, 1), (.putfield 13, 3), (.aload_n 0, 1), (.dup, 1), (.getfield 13, 3), (.iconst 1, 1), (.isub, 1), (.putfield 13, 3), (.aload_n 0, 1), (.iconst 0, 1), (.putfield 204, 3), (.bipush 9, 2), (.iload_n 2, 1), (.iadd, 1), (.istore_n 3, 1)] := zdcA_ok (by decide +kernel)
theorem dX8_acts_253 : decode cX8_acts 253 = .ok (.iconst 1, 1) := dX8_acts_r253.1
theorem dX8_acts_254 : decode cX8_acts 254 = .ok (.iadd, 1) := dX8_acts_r253.2.1
theorem dX8_acts_255 : decode cX8_acts 255 = .ok (.putfield 13, 3) := dX8_acts_r253.2.2.1
theorem dX8_acts_258 : decode cX8_acts 258 = .ok (.aload_n 0, 1) := dX8_acts_r253.2.2.2.1
theorem dX8_acts_259 : decode cX8_acts 259 = .ok (.dup, 1) := dX8_acts_r253.2.2.2.2.1
theorem dX8_acts_260 : decode cX8_acts 260 = .ok (.getfield 13, 3) := dX8_acts_r253.2.2.2.2.2.1
theorem dX8_acts_263 : decode cX8_acts 263 = .ok (.iconst 1, 1) := dX8_acts_r253.2.2.2.2.2.2.1
theorem dX8_acts_264 : decode cX8_acts 264 = .ok (.isub, 1) := dX8_acts_r253.2.2.2.2.2.2.2.1
theorem dX8_acts_265 : decode cX8_acts 265 = .ok (.putfield 13, 3) := dX8_acts_r253.2.2.2.2.2.2.2.2.1
theorem dX8_acts_268 : decode cX8_acts 268 = .ok (.aload_n 0, 1) := dX8_acts_r253.2.2.2.2.2.2.2.2.2.1
theorem dX8_acts_269 : decode cX8_acts 269 = .ok (.iconst 0, 1) := dX8_acts_r253.2.2.2.2.2.2.2.2.2.2.1
theorem dX8_acts_270 : decode cX8_acts 270 = .ok (.putfield 204, 3) := dX8_acts_r253.2.2.2.2.2.2.2.2.2.2.2.1
theorem dX8_acts_273 : decode cX8_acts 273 = .ok (.bipush 9, 2) := dX8_acts_r253.2.2.2.2.2.2.2.2.2.2.2.2.1
theorem dX8_acts_275 : decode cX8_acts 275 = .ok (.iload_n 2, 1) := dX8_acts_r253.2.2.2.2.2.2.2.2.2.2.2.2.2.1
theorem dX8_acts_276 : decode cX8_acts 276 = .ok (.iadd, 1) := dX8_acts_r253.2.2.2.2.2.2.2.2.2.2.2.2.2.2.1
theorem dX8_acts_277 : decode cX8_acts 277 = .ok (.istore_n 3, 1) := dX8_acts_r253.2.2.2.2.2.2.2.2.2.2.2.2.2.2.2.1
theorem dX8_acts_r278 : zdcP cX8_acts 278 [(.aload_n 0, 1), (.dup, 1), (.getfield 210, 3), (.iload_n 3, 1), (.iconst 3, 1), (.if_icmp .ge 7, 3), (.iconst 3, 1), (.goto 4, 3), (.iload_n 3, 1), (.iadd, 1), (.putfield 210, 3), (.iconst 0, 1), (.istore 4, 2), (.iload 4, 2), (.aload_n 0, 1), (.getfield 105, 3)] := zdcA_ok (by decide +kernel)
theorem dX8_acts_278 : decode cX8_acts 278 = .ok (.aload_n 0, 1) := dX8_acts_r278.1
theorem dX8_acts_279 : decode cX8_acts 279 = .ok (.dup, 1) := dX8_acts_r278.2.1
theorem dX8_acts_280 : decode cX8_acts 280 = .ok (.getfield 210, 3) := dX8_acts_r278.2.2.1
theorem dX8_acts_283 : decode cX8_acts 283 = .ok (.iload_n 3, 1) := dX8_acts_r278.2.2.2.1
theorem dX8_acts_284 : decode cX8_acts 284 = .ok (.iconst 3, 1) := dX8_acts_r278.2.2.2.2.1
theorem dX8_acts_285 : decode cX8_acts 285 = .ok (.if_icmp .ge 7, 3) := dX8_acts_r278.2.2.2.2.2.1
theorem dX8_acts_288 : decode cX8_acts 288 = .ok (.iconst 3, 1) := dX8_acts_r278.2.2.2.2.2.2.1
theorem dX8_acts_289 : decode cX8_acts 289 = .ok (.goto 4, 3) := dX8_acts_r278.2.2.2.2.2.2.2.1
theorem dX8_acts_292 : decode cX8_acts 292 = .ok (.iload_n 3, 1) := dX8_acts_r278.2.2.2.2.2.2.2.2.1
theorem dX8_acts_293 : decode cX8_acts 293 = .ok (.iadd, 1) := dX8_acts_r278.2.2.2.2.2.2.2.2.2.1
theorem dX8_acts_294 : decode cX8_acts 294 = .ok (.putfield 210, 3) := dX8_acts_r278.2.2.2.2.2.2.2.2.2.2.1
theorem dX8_acts_297 : decode cX8_acts 297 = .ok (.iconst 0, 1) := dX8_acts_r278.2.2.2.2.2.2.2.2.2.2.2.1
theorem dX8_acts_298 : decode cX8_acts 298 = .ok (.istore 4, 2) := dX8_acts_r278.2.2.2.2.2.2.2.2.2.2.2.2.1
theorem dX8_acts_300 : decode cX8_acts 300 = .ok (.iload 4, 2) := dX8_acts_r278.2.2.2.2.2.2.2.2.2.2.2.2.2.1
theorem dX8_acts_302 : decode cX8_acts 302 = .ok (.aload_n 0, 1) := dX8_acts_r278.2.2.2.2.2.2.2.2.2.2.2.2.2.2.1
theorem dX8_acts_303 : decode cX8_acts 303 = .ok (.getfield 105, 3) := dX8_acts_r278.2.2.2.2.2.2.2.2.2.2.2.2.2.2.2.1
theorem dX8_acts_r306 : zdcP cX8_acts 306 [(.if_icmp .ge 55, 3), (.iload 4, 2), (.iload_n 1, 1), (.if_icmp .ne 6, 3), (.goto 40, 3), (.aload_n 0, 1), (.iload 4, 2), (.aload_n 0, 1), (.getfield 47, 3), (.iload 4, 2), (.iaload, 1), (.iconst 3, 1), (.if_icmp .ne 7, 3), (.iconst 3, 1), (.goto 4, 3), (.iconst 2, 1)] := zdcA_ok (by decide +kernel)
theorem dX8_acts_306 : decode cX8_acts 306 = .ok (.if_icmp .ge 55, 3) := dX8_acts_r306.1
theorem dX8_acts_309 : decode cX8_acts 309 = .ok (.iload 4, 2) := dX8_acts_r306.2.1
theorem dX8_acts_311 : decode cX8_acts 311 = .ok (.iload_n 1, 1) := dX8_acts_r306.2.2.1
theorem dX8_acts_312 : decode cX8_acts 312 = .ok (.if_icmp .ne 6, 3) := dX8_acts_r306.2.2.2.1
theorem dX8_acts_315 : decode cX8_acts 315 = .ok (.goto 40, 3) := dX8_acts_r306.2.2.2.2.1
theorem dX8_acts_318 : decode cX8_acts 318 = .ok (.aload_n 0, 1) := dX8_acts_r306.2.2.2.2.2.1
theorem dX8_acts_319 : decode cX8_acts 319 = .ok (.iload 4, 2) := dX8_acts_r306.2.2.2.2.2.2.1
theorem dX8_acts_321 : decode cX8_acts 321 = .ok (.aload_n 0, 1) := dX8_acts_r306.2.2.2.2.2.2.2.1
theorem dX8_acts_322 : decode cX8_acts 322 = .ok (.getfield 47, 3) := dX8_acts_r306.2.2.2.2.2.2.2.2.1
theorem dX8_acts_325 : decode cX8_acts 325 = .ok (.iload 4, 2) := dX8_acts_r306.2.2.2.2.2.2.2.2.2.1
theorem dX8_acts_327 : decode cX8_acts 327 = .ok (.iaload, 1) := dX8_acts_r306.2.2.2.2.2.2.2.2.2.2.1
theorem dX8_acts_328 : decode cX8_acts 328 = .ok (.iconst 3, 1) := dX8_acts_r306.2.2.2.2.2.2.2.2.2.2.2.1
theorem dX8_acts_329 : decode cX8_acts 329 = .ok (.if_icmp .ne 7, 3) := dX8_acts_r306.2.2.2.2.2.2.2.2.2.2.2.2.1
theorem dX8_acts_332 : decode cX8_acts 332 = .ok (.iconst 3, 1) := dX8_acts_r306.2.2.2.2.2.2.2.2.2.2.2.2.2.1
theorem dX8_acts_333 : decode cX8_acts 333 = .ok (.goto 4, 3) := dX8_acts_r306.2.2.2.2.2.2.2.2.2.2.2.2.2.2.1
theorem dX8_acts_336 : decode cX8_acts 336 = .ok (.iconst 2, 1) := dX8_acts_r306.2.2.2.2.2.2.2.2.2.2.2.2.2.2.2.1
theorem dX8_acts_r337 : zdcP cX8_acts 337 [(.aload_n 0, 1), (.getfield 9, 3), (.iload 4, 2), (.if_icmp .ne 7, 3), (.iconst 1, 1), (.goto 4, 3), (.iconst 0, 1), (.isub, 1), (.invokevirtual 223, 3), (.iinc 4 1, 3), (.goto (-58), 3), (.aload_n 0, 1), (.dup, 1), (.getfield 207, 3), (.iconst 1, 1), (.iadd, 1)] := zdcA_ok (by decide +kernel)
theorem dX8_acts_337 : decode cX8_acts 337 = .ok (.aload_n 0, 1) := dX8_acts_r337.1
theorem dX8_acts_338 : decode cX8_acts 338 = .ok (.getfield 9, 3) := dX8_acts_r337.2.1
theorem dX8_acts_341 : decode cX8_acts 341 = .ok (.iload 4, 2) := dX8_acts_r337.2.2.1
theorem dX8_acts_343 : decode cX8_acts 343 = .ok (.if_icmp .ne 7, 3) := dX8_acts_r337.2.2.2.1
theorem dX8_acts_346 : decode cX8_acts 346 = .ok (.iconst 1, 1) := dX8_acts_r337.2.2.2.2.1
theorem dX8_acts_347 : decode cX8_acts 347 = .ok (.goto 4, 3) := dX8_acts_r337.2.2.2.2.2.1
theorem dX8_acts_350 : decode cX8_acts 350 = .ok (.iconst 0, 1) := dX8_acts_r337.2.2.2.2.2.2.1
theorem dX8_acts_351 : decode cX8_acts 351 = .ok (.isub, 1) := dX8_acts_r337.2.2.2.2.2.2.2.1
theorem dX8_acts_352 : decode cX8_acts 352 = .ok (.invokevirtual 223, 3) := dX8_acts_r337.2.2.2.2.2.2.2.2.1
theorem dX8_acts_355 : decode cX8_acts 355 = .ok (.iinc 4 1, 3) := dX8_acts_r337.2.2.2.2.2.2.2.2.2.1
theorem dX8_acts_358 : decode cX8_acts 358 = .ok (.goto (-58), 3) := dX8_acts_r337.2.2.2.2.2.2.2.2.2.2.1
theorem dX8_acts_361 : decode cX8_acts 361 = .ok (.aload_n 0, 1) := dX8_acts_r337.2.2.2.2.2.2.2.2.2.2.2.1
theorem dX8_acts_362 : decode cX8_acts 362 = .ok (.dup, 1) := dX8_acts_r337.2.2.2.2.2.2.2.2.2.2.2.2.1
theorem dX8_acts_363 : decode cX8_acts 363 = .ok (.getfield 207, 3) := dX8_acts_r337.2.2.2.2.2.2.2.2.2.2.2.2.2.1
theorem dX8_acts_366 : decode cX8_acts 366 = .ok (.iconst 1, 1) := dX8_acts_r337.2.2.2.2.2.2.2.2.2.2.2.2.2.2.1
theorem dX8_acts_367 : decode cX8_acts 367 = .ok (.iadd, 1) := dX8_acts_r337.2.2.2.2.2.2.2.2.2.2.2.2.2.2.2.1
theorem dX8_acts_r368 : zdcP cX8_acts 368 [(.putfield 207, 3), (.return_, 1)] := zdcA_ok (by decide +kernel)
theorem dX8_acts_368 : decode cX8_acts 368 = .ok (.putfield 207, 3) := dX8_acts_r368.1
theorem dX8_acts_371 : decode cX8_acts 371 = .ok (.return_, 1) := dX8_acts_r368.2.1
def wq_169_337 (v1 : Int32) (F300 : Int32 → zf_Me → Prop) (v4 : Int32) (u0 : Int32) (u1 : Int32) (m : zf_Me) (Q : zf_Me → Prop) : Prop := ((¬ ((m.1 63 2)).toInt = v4.toInt → wp_168 u1 (u0 - 0) m (fun m10 => F300 (v4 + 1) m10)) ∧ (((m.1 63 2)).toInt = v4.toInt → wp_168 u1 (u0 - 1) m (fun m12 => F300 (v4 + 1) m12)))
theorem zq_169_337 {d : Nat} (hd : 1 ≤ d) {v1 : Int32} {F300 : Int32 → zf_Me → Prop} {Q : zf_Me → Prop} (hF300 : ∀ (v4 : Int32) (m : zf_Me), F300 v4 m → zf_W none 0 0 d zt_169 300 [some (.inr (.inr (1, 63))), some (.inl v1), none, none, some (.inl v4)] [] m (zf_O Q)) {v4 : Int32} {u0 : Int32} {u1 : Int32} {m : zf_Me} (h : wq_169_337 v1 F300 v4 u0 u1 m Q) : zf_W none 0 0 d zt_169 337 [some (.inr (.inr (1, 63))), some (.inl v1), none, none, some (.inl v4)] [.inl u0, .inl u1, .inr (.inr (1, 63))] m (zf_O Q) := by
  obtain ⟨e, rfl⟩ : ∃ z, d = z + 1 := ⟨d - 1, by omega⟩
  unfold wq_169_337 at h
  refine zf_ld (pc' := 338) (v := .inr (.inr (1, 63))) dX8_acts_337 rfl (fun _ _ _ => rfl) rfl rfl rfl ?_
  refine zf_gfi (pc' := 341) dX8_acts_338 rfl rfl (by decide) rfl rfl ?_
  refine zf_ld (pc' := 343) (v := .inl v4) dX8_acts_341 rfl (fun _ _ _ => rfl) rfl rfl rfl ?_
  refine zf_icmp_ne (tgt := 350) (pc' := 346) dX8_acts_343 rfl rfl (fun g => ?_) (fun g => ?_)
  · replace h := h.1 g
    refine zf_ic (v := 0) (pc' := 351) dX8_acts_350 rfl rfl ?_
    refine zf_in (pc' := 352) (S' := [.inl (u0 - 0), .inl u1, .inr (.inr (1, 63))]) dX8_acts_351 rfl (fun _ _ _ => rfl) ?_
    refine zf_iv (k := 168) (pc' := 355) (r := []) dX8_acts_352 rfl rfl rfl rfl (by decide) rfl rfl rfl (zr_168 (by omega) h) (zf_kO (fun m10 h => ?_))
    refine zf_ii (y := (v4 + 1)) (L2 := [some (.inr (.inr (1, 63))), some (.inl v1), none, none, some (.inl (v4 + 1))]) (pc' := 358) dX8_acts_355 rfl rfl rfl rfl rfl ?_
    refine zf_goto (tgt := 300) dX8_acts_358 rfl ?_
    exact zf_lo (hF300 _ _ h) ⟨rfl, rfl, rfl, trivial⟩
  · replace h := h.2 g
    refine zf_ic (v := 1) (pc' := 347) dX8_acts_346 rfl rfl ?_
    refine zf_goto (tgt := 351) dX8_acts_347 rfl ?_
    refine zf_in (pc' := 352) (S' := [.inl (u0 - 1), .inl u1, .inr (.inr (1, 63))]) dX8_acts_351 rfl (fun _ _ _ => rfl) ?_
    refine zf_iv (k := 168) (pc' := 355) (r := []) dX8_acts_352 rfl rfl rfl rfl (by decide) rfl rfl rfl (zr_168 (by omega) h) (zf_kO (fun m12 h => ?_))
    refine zf_ii (y := (v4 + 1)) (L2 := [some (.inr (.inr (1, 63))), some (.inl v1), none, none, some (.inl (v4 + 1))]) (pc' := 358) dX8_acts_355 rfl rfl rfl rfl rfl ?_
    refine zf_goto (tgt := 300) dX8_acts_358 rfl ?_
    exact zf_lo (hF300 _ _ h) ⟨rfl, rfl, rfl, trivial⟩
def wq_169_300 (v1 : Int32) (Q : zf_Me → Prop) : Nat → Int32 → zf_Me → Prop
  | 0, _, _ => False
  | n + 1, v4, m => ((v4.toInt ≥ ((m.1 63 1)).toInt → (∀ m7, m7 = zf_u m 63 10 ((m.1 63 10) + 1) → Q m7)) ∧ (v4.toInt < ((m.1 63 1)).toInt → ((¬ v4.toInt = v1.toInt → ((0 ≤ (Int32.toInt v4) ∧ (Int32.toInt v4) < (6 : Int)) ∧ ((¬ ((m.1 67 (Int32.toInt v4).toNat)).toInt = 3 → wq_169_337 v1 (wq_169_300 v1 Q n) v4 2 v4 m Q) ∧ (((m.1 67 (Int32.toInt v4).toNat)).toInt = 3 → wq_169_337 v1 (wq_169_300 v1 Q n) v4 3 v4 m Q)))) ∧ (v4.toInt = v1.toInt → wq_169_300 v1 Q n (v4 + 1) m))))
theorem zq_169_300 {d : Nat} (hd : 1 ≤ d) {v1 : Int32} {Q : zf_Me → Prop} : ∀ (n : Nat) (v4 : Int32) (m : zf_Me), wq_169_300 v1 Q n v4 m → zf_W none 0 0 d zt_169 300 [some (.inr (.inr (1, 63))), some (.inl v1), none, none, some (.inl v4)] [] m (zf_O Q) := by
  intro n
  induction n with
  | zero =>
    intro v4 m h
    exact h.elim
  | succ n ih =>
    intro v4 m h
    unfold wq_169_300 at h
    refine zf_ld (pc' := 302) (v := .inl v4) dX8_acts_300 rfl (fun _ _ _ => rfl) rfl rfl rfl ?_
    refine zf_ld (pc' := 303) (v := .inr (.inr (1, 63))) dX8_acts_302 rfl (fun _ _ _ => rfl) rfl rfl rfl ?_
    refine zf_gfi (pc' := 306) dX8_acts_303 rfl rfl (by decide) rfl rfl ?_
    refine zf_icmp_ge (tgt := 361) (pc' := 309) dX8_acts_306 rfl rfl (fun g => ?_) (fun g => ?_)
    · replace h := h.1 g
      refine zf_ld (pc' := 362) (v := .inr (.inr (1, 63))) dX8_acts_361 rfl (fun _ _ _ => rfl) rfl rfl rfl ?_
      refine zf_in (pc' := 363) (S' := [.inr (.inr (1, 63)), .inr (.inr (1, 63))]) dX8_acts_362 rfl (fun _ _ _ => rfl) ?_
      refine zf_gfi (pc' := 366) dX8_acts_363 rfl rfl (by decide) rfl rfl ?_
      refine zf_ic (v := 1) (pc' := 367) dX8_acts_366 rfl rfl ?_
      refine zf_in (pc' := 368) (S' := [.inl ((m.1 63 10) + 1), .inr (.inr (1, 63))]) dX8_acts_367 rfl (fun _ _ _ => rfl) ?_
      refine zf_pf (pc' := 371) dX8_acts_368 rfl rfl (by decide) rfl rfl rfl (fun m7 e8 => ?_)
      replace h := h m7 e8
      exact zf_rv dX8_acts_371 rfl h
    · replace h := h.2 g
      refine zf_ld (pc' := 311) (v := .inl v4) dX8_acts_309 rfl (fun _ _ _ => rfl) rfl rfl rfl ?_
      refine zf_ld (pc' := 312) (v := .inl v1) dX8_acts_311 rfl (fun _ _ _ => rfl) rfl rfl rfl ?_
      refine zf_icmp_ne (tgt := 318) (pc' := 315) dX8_acts_312 rfl rfl (fun g => ?_) (fun g => ?_)
      · replace h := h.1 g
        refine zf_ld (pc' := 319) (v := .inr (.inr (1, 63))) dX8_acts_318 rfl (fun _ _ _ => rfl) rfl rfl rfl ?_
        refine zf_ld (pc' := 321) (v := .inl v4) dX8_acts_319 rfl (fun _ _ _ => rfl) rfl rfl rfl ?_
        refine zf_ld (pc' := 322) (v := .inr (.inr (1, 63))) dX8_acts_321 rfl (fun _ _ _ => rfl) rfl rfl rfl ?_
        refine zf_gfr (pc' := 325) (b := 67) dX8_acts_322 rfl rfl (by decide) rfl rfl ?_
        refine zf_ld (pc' := 327) (v := .inl v4) dX8_acts_325 rfl (fun _ _ _ => rfl) rfl rfl rfl ?_
        refine zf_ial (pc' := 328) dX8_acts_327 rfl (⟨by decide, rfl⟩ : zf_arr 67 6).1 (⟨by decide, rfl⟩ : zf_arr 67 6).2 h.1 rfl ?_
        replace h := h.2
        refine zf_ic (v := 3) (pc' := 329) dX8_acts_328 rfl rfl ?_
        refine zf_icmp_ne (tgt := 336) (pc' := 332) dX8_acts_329 rfl rfl (fun g => ?_) (fun g => ?_)
        · replace h := h.1 g
          refine zf_ic (v := 2) (pc' := 337) dX8_acts_336 rfl rfl ?_
          exact zf_lo (zq_169_337 (by omega) ih h) ⟨rfl, rfl, rfl, trivial⟩
        · replace h := h.2 g
          refine zf_ic (v := 3) (pc' := 333) dX8_acts_332 rfl rfl ?_
          refine zf_goto (tgt := 337) dX8_acts_333 rfl ?_
          exact zf_lo (zq_169_337 (by omega) ih h) ⟨rfl, rfl, rfl, trivial⟩
      · replace h := h.2 g
        refine zf_goto (tgt := 355) dX8_acts_315 rfl ?_
        refine zf_ii (y := (v4 + 1)) (L2 := [some (.inr (.inr (1, 63))), some (.inl v1), none, none, some (.inl (v4 + 1))]) (pc' := 358) dX8_acts_355 rfl rfl rfl rfl rfl ?_
        refine zf_goto (tgt := 300) dX8_acts_358 rfl ?_
        exact zf_lo (ih _ _ h) ⟨rfl, rfl, rfl, trivial⟩
def wq_169_278 (v1 : Int32) (v3 : Int32) (m : zf_Me) (Q : zf_Me → Prop) : Prop := ((v3.toInt ≥ 3 → (∀ m5, m5 = zf_u m 63 11 ((m.1 63 11) + v3) → (∃ n300, wq_169_300 v1 Q n300 0 m5))) ∧ (v3.toInt < 3 → (∀ m13, m13 = zf_u m 63 11 ((m.1 63 11) + 3) → (∃ n300, wq_169_300 v1 Q n300 0 m13))))
theorem zq_169_278 {d : Nat} (hd : 1 ≤ d) {v1 : Int32} {Q : zf_Me → Prop} {v3 : Int32} {m : zf_Me} (h : wq_169_278 v1 v3 m Q) : zf_W none 0 0 d zt_169 278 [some (.inr (.inr (1, 63))), some (.inl v1), none, some (.inl v3), none] [] m (zf_O Q) := by
  unfold wq_169_278 at h
  refine zf_ld (pc' := 279) (v := .inr (.inr (1, 63))) dX8_acts_278 rfl (fun _ _ _ => rfl) rfl rfl rfl ?_
  refine zf_in (pc' := 280) (S' := [.inr (.inr (1, 63)), .inr (.inr (1, 63))]) dX8_acts_279 rfl (fun _ _ _ => rfl) ?_
  refine zf_gfi (pc' := 283) dX8_acts_280 rfl rfl (by decide) rfl rfl ?_
  refine zf_ld (pc' := 284) (v := .inl v3) dX8_acts_283 rfl (fun _ _ _ => rfl) rfl rfl rfl ?_
  refine zf_ic (v := 3) (pc' := 285) dX8_acts_284 rfl rfl ?_
  refine zf_icmp_ge (tgt := 292) (pc' := 288) dX8_acts_285 rfl rfl (fun g => ?_) (fun g => ?_)
  · replace h := h.1 g
    refine zf_ld (pc' := 293) (v := .inl v3) dX8_acts_292 rfl (fun _ _ _ => rfl) rfl rfl rfl ?_
    refine zf_in (pc' := 294) (S' := [.inl ((m.1 63 11) + v3), .inr (.inr (1, 63))]) dX8_acts_293 rfl (fun _ _ _ => rfl) ?_
    refine zf_pf (pc' := 297) dX8_acts_294 rfl rfl (by decide) rfl rfl rfl (fun m5 e6 => ?_)
    replace h := h m5 e6
    refine zf_ic (v := 0) (pc' := 298) dX8_acts_297 rfl rfl ?_
    refine zf_st (pc' := 300) (L2 := [some (.inr (.inr (1, 63))), some (.inl v1), none, some (.inl v3), some (.inl 0)]) dX8_acts_298 rfl (fun _ _ _ => rfl) rfl rfl rfl rfl rfl rfl ?_
    obtain ⟨n300, h⟩ := h
    exact zf_lo (zq_169_300 (by omega) n300 _ _ h) ⟨rfl, rfl, rfl, trivial⟩
  · replace h := h.2 g
    refine zf_ic (v := 3) (pc' := 289) dX8_acts_288 rfl rfl ?_
    refine zf_goto (tgt := 293) dX8_acts_289 rfl ?_
    refine zf_in (pc' := 294) (S' := [.inl ((m.1 63 11) + 3), .inr (.inr (1, 63))]) dX8_acts_293 rfl (fun _ _ _ => rfl) ?_
    refine zf_pf (pc' := 297) dX8_acts_294 rfl rfl (by decide) rfl rfl rfl (fun m13 e14 => ?_)
    replace h := h m13 e14
    refine zf_ic (v := 0) (pc' := 298) dX8_acts_297 rfl rfl ?_
    refine zf_st (pc' := 300) (L2 := [some (.inr (.inr (1, 63))), some (.inl v1), none, some (.inl v3), some (.inl 0)]) dX8_acts_298 rfl (fun _ _ _ => rfl) rfl rfl rfl rfl rfl rfl ?_
    obtain ⟨n300, h⟩ := h
    exact zf_lo (zq_169_300 (by omega) n300 _ _ h) ⟨rfl, rfl, rfl, trivial⟩
def wq_169_258 (v1 : Int32) (v2 : Int32) (m : zf_Me) (Q : zf_Me → Prop) : Prop := (∀ m1, m1 = zf_u m 63 3 ((m.1 63 3) - 1) → (∀ m3, m3 = zf_u m1 63 6 0 → wq_169_278 v1 (9 + v2) m3 Q))
theorem zq_169_258 {d : Nat} (hd : 1 ≤ d) {v1 : Int32} {Q : zf_Me → Prop} {v2 : Int32} {m : zf_Me} (h : wq_169_258 v1 v2 m Q) : zf_W none 0 0 d zt_169 258 [some (.inr (.inr (1, 63))), some (.inl v1), some (.inl v2), none, none] [] m (zf_O Q) := by
  unfold wq_169_258 at h
  refine zf_ld (pc' := 259) (v := .inr (.inr (1, 63))) dX8_acts_258 rfl (fun _ _ _ => rfl) rfl rfl rfl ?_
  refine zf_in (pc' := 260) (S' := [.inr (.inr (1, 63)), .inr (.inr (1, 63))]) dX8_acts_259 rfl (fun _ _ _ => rfl) ?_
  refine zf_gfi (pc' := 263) dX8_acts_260 rfl rfl (by decide) rfl rfl ?_
  refine zf_ic (v := 1) (pc' := 264) dX8_acts_263 rfl rfl ?_
  refine zf_in (pc' := 265) (S' := [.inl ((m.1 63 3) - 1), .inr (.inr (1, 63))]) dX8_acts_264 rfl (fun _ _ _ => rfl) ?_
  refine zf_pf (pc' := 268) dX8_acts_265 rfl rfl (by decide) rfl rfl rfl (fun m1 e2 => ?_)
  replace h := h m1 e2
  refine zf_ld (pc' := 269) (v := .inr (.inr (1, 63))) dX8_acts_268 rfl (fun _ _ _ => rfl) rfl rfl rfl ?_
  refine zf_ic (v := 0) (pc' := 270) dX8_acts_269 rfl rfl ?_
  refine zf_pf (pc' := 273) dX8_acts_270 rfl rfl (by decide) rfl rfl rfl (fun m3 e4 => ?_)
  replace h := h m3 e4
  refine zf_bi (v := 9) (pc' := 275) dX8_acts_273 rfl rfl ?_
  refine zf_ld (pc' := 276) (v := .inl v2) dX8_acts_275 rfl (fun _ _ _ => rfl) rfl rfl rfl ?_
  refine zf_in (pc' := 277) (S' := [.inl (9 + v2)]) dX8_acts_276 rfl (fun _ _ _ => rfl) ?_
  refine zf_st (pc' := 278) (L2 := [some (.inr (.inr (1, 63))), some (.inl v1), some (.inl v2), some (.inl (9 + v2)), none]) dX8_acts_277 rfl (fun _ _ _ => rfl) rfl rfl rfl rfl rfl rfl ?_
  exact zf_lo (zq_169_278 (by omega) h) ⟨rfl, rfl, rfl, trivial⟩
def wq_169_255 (v1 : Int32) (v2 : Int32) (u0 : Int32) (m : zf_Me) (Q : zf_Me → Prop) : Prop := (∀ m17, m17 = zf_u m 63 3 u0 → wq_169_258 v1 v2 m17 Q)
theorem zq_169_255 {d : Nat} (hd : 1 ≤ d) {v1 : Int32} {Q : zf_Me → Prop} {v2 : Int32} {u0 : Int32} {m : zf_Me} (h : wq_169_255 v1 v2 u0 m Q) : zf_W none 0 0 d zt_169 255 [some (.inr (.inr (1, 63))), some (.inl v1), some (.inl v2), none, none] [.inl u0, .inr (.inr (1, 63))] m (zf_O Q) := by
  unfold wq_169_255 at h
  refine zf_pf (pc' := 258) dX8_acts_255 rfl rfl (by decide) rfl rfl rfl (fun m17 e18 => ?_)
  replace h := h m17 e18
  exact zf_lo (zq_169_258 (by omega) h) ⟨rfl, rfl, rfl, trivial⟩
def wq_169_208 (v1 : Int32) (v2 : Int32) (m : zf_Me) (Q : zf_Me → Prop) : Prop := ((¬ v1.toInt = 8 → wq_169_258 v1 v2 m Q) ∧ (v1.toInt = 8 → (∀ m15, m15 = zf_u m 63 8 ((m.1 63 8) - 1) → (((((m15.1 63 3) + 1)).toInt ≤ (((m15.1 63 4) + 2)).toInt → wq_169_255 v1 v2 ((m15.1 63 3) + 1) m15 Q) ∧ ((((m15.1 63 3) + 1)).toInt > (((m15.1 63 4) + 2)).toInt → wq_169_255 v1 v2 ((m15.1 63 4) + 2) m15 Q)))))
theorem zq_169_208 {d : Nat} (hd : 1 ≤ d) {v1 : Int32} {Q : zf_Me → Prop} {v2 : Int32} {m : zf_Me} (h : wq_169_208 v1 v2 m Q) : zf_W none 0 0 d zt_169 208 [some (.inr (.inr (1, 63))), some (.inl v1), some (.inl v2), none, none] [] m (zf_O Q) := by
  unfold wq_169_208 at h
  refine zf_ld (pc' := 209) (v := .inl v1) dX8_acts_208 rfl (fun _ _ _ => rfl) rfl rfl rfl ?_
  refine zf_bi (v := 8) (pc' := 211) dX8_acts_209 rfl rfl ?_
  refine zf_icmp_ne (tgt := 258) (pc' := 214) dX8_acts_211 rfl rfl (fun g => ?_) (fun g => ?_)
  · replace h := h.1 g
    exact zf_lo (zq_169_258 (by omega) h) ⟨rfl, rfl, rfl, trivial⟩
  · replace h := h.2 g
    refine zf_ld (pc' := 215) (v := .inr (.inr (1, 63))) dX8_acts_214 rfl (fun _ _ _ => rfl) rfl rfl rfl ?_
    refine zf_in (pc' := 216) (S' := [.inr (.inr (1, 63)), .inr (.inr (1, 63))]) dX8_acts_215 rfl (fun _ _ _ => rfl) ?_
    refine zf_gfi (pc' := 219) dX8_acts_216 rfl rfl (by decide) rfl rfl ?_
    refine zf_ic (v := 1) (pc' := 220) dX8_acts_219 rfl rfl ?_
    refine zf_in (pc' := 221) (S' := [.inl ((m.1 63 8) - 1), .inr (.inr (1, 63))]) dX8_acts_220 rfl (fun _ _ _ => rfl) ?_
    refine zf_pf (pc' := 224) dX8_acts_221 rfl rfl (by decide) rfl rfl rfl (fun m15 e16 => ?_)
    replace h := h m15 e16
    refine zf_ld (pc' := 225) (v := .inr (.inr (1, 63))) dX8_acts_224 rfl (fun _ _ _ => rfl) rfl rfl rfl ?_
    refine zf_ld (pc' := 226) (v := .inr (.inr (1, 63))) dX8_acts_225 rfl (fun _ _ _ => rfl) rfl rfl rfl ?_
    refine zf_gfi (pc' := 229) dX8_acts_226 rfl rfl (by decide) rfl rfl ?_
    refine zf_ic (v := 1) (pc' := 230) dX8_acts_229 rfl rfl ?_
    refine zf_in (pc' := 231) (S' := [.inl ((m15.1 63 3) + 1), .inr (.inr (1, 63))]) dX8_acts_230 rfl (fun _ _ _ => rfl) ?_
    refine zf_ld (pc' := 232) (v := .inr (.inr (1, 63))) dX8_acts_231 rfl (fun _ _ _ => rfl) rfl rfl rfl ?_
    refine zf_gfi (pc' := 235) dX8_acts_232 rfl rfl (by decide) rfl rfl ?_
    refine zf_ic (v := 2) (pc' := 236) dX8_acts_235 rfl rfl ?_
    refine zf_in (pc' := 237) (S' := [.inl ((m15.1 63 4) + 2), .inl ((m15.1 63 3) + 1), .inr (.inr (1, 63))]) dX8_acts_236 rfl (fun _ _ _ => rfl) ?_
    refine zf_icmp_le (tgt := 249) (pc' := 240) dX8_acts_237 rfl rfl (fun g => ?_) (fun g => ?_)
    · replace h := h.1 g
      refine zf_ld (pc' := 250) (v := .inr (.inr (1, 63))) dX8_acts_249 rfl (fun _ _ _ => rfl) rfl rfl rfl ?_
      refine zf_gfi (pc' := 253) dX8_acts_250 rfl rfl (by decide) rfl rfl ?_
      refine zf_ic (v := 1) (pc' := 254) dX8_acts_253 rfl rfl ?_
      refine zf_in (pc' := 255) (S' := [.inl ((m15.1 63 3) + 1), .inr (.inr (1, 63))]) dX8_acts_254 rfl (fun _ _ _ => rfl) ?_
      exact zf_lo (zq_169_255 (by omega) h) ⟨rfl, rfl, rfl, trivial⟩
    · replace h := h.2 g
      refine zf_ld (pc' := 241) (v := .inr (.inr (1, 63))) dX8_acts_240 rfl (fun _ _ _ => rfl) rfl rfl rfl ?_
      refine zf_gfi (pc' := 244) dX8_acts_241 rfl rfl (by decide) rfl rfl ?_
      refine zf_ic (v := 2) (pc' := 245) dX8_acts_244 rfl rfl ?_
      refine zf_in (pc' := 246) (S' := [.inl ((m15.1 63 4) + 2), .inr (.inr (1, 63))]) dX8_acts_245 rfl (fun _ _ _ => rfl) ?_
      refine zf_goto (tgt := 255) dX8_acts_246 rfl ?_
      exact zf_lo (zq_169_255 (by omega) h) ⟨rfl, rfl, rfl, trivial⟩
def wq_169_205 (v1 : Int32) (v2 : Int32) (u0 : Int32) (m : zf_Me) (Q : zf_Me → Prop) : Prop := (∀ m21, m21 = zf_u m 63 3 u0 → wq_169_208 v1 v2 m21 Q)
theorem zq_169_205 {d : Nat} (hd : 1 ≤ d) {v1 : Int32} {Q : zf_Me → Prop} {v2 : Int32} {u0 : Int32} {m : zf_Me} (h : wq_169_205 v1 v2 u0 m Q) : zf_W none 0 0 d zt_169 205 [some (.inr (.inr (1, 63))), some (.inl v1), some (.inl v2), none, none] [.inl u0, .inr (.inr (1, 63))] m (zf_O Q) := by
  unfold wq_169_205 at h
  refine zf_pf (pc' := 208) dX8_acts_205 rfl rfl (by decide) rfl rfl rfl (fun m21 e22 => ?_)
  replace h := h m21 e22
  exact zf_lo (zq_169_208 (by omega) h) ⟨rfl, rfl, rfl, trivial⟩
def wq_169_153 (v1 : Int32) (u0 : Int32) (u1 : Int32) (m : zf_Me) (Q : zf_Me → Prop) : Prop := wq_169_278 v1 (u1 + u0) m Q
theorem zq_169_153 {d : Nat} (hd : 1 ≤ d) {v1 : Int32} {Q : zf_Me → Prop} {u0 : Int32} {u1 : Int32} {m : zf_Me} (h : wq_169_153 v1 u0 u1 m Q) : zf_W none 0 0 d zt_169 153 [some (.inr (.inr (1, 63))), some (.inl v1), none, none, none] [.inl u0, .inl u1] m (zf_O Q) := by
  unfold wq_169_153 at h
  refine zf_in (pc' := 154) (S' := [.inl (u1 + u0)]) dX8_acts_153 rfl (fun _ _ _ => rfl) ?_
  refine zf_st (pc' := 155) (L2 := [some (.inr (.inr (1, 63))), some (.inl v1), none, some (.inl (u1 + u0)), none]) dX8_acts_154 rfl (fun _ _ _ => rfl) rfl rfl rfl rfl rfl rfl ?_
  refine zf_goto (tgt := 278) dX8_acts_155 rfl ?_
  exact zf_lo (zq_169_278 (by omega) h) ⟨rfl, rfl, rfl, trivial⟩
def wq_169_136 (v1 : Int32) (v2 : Int32) (m : zf_Me) (Q : zf_Me → Prop) : Prop := ((¬ ((m.1 63 6)).toInt = 1 → wq_169_153 v1 0 (6 + v2) m Q) ∧ (((m.1 63 6)).toInt = 1 → wq_169_153 v1 1 (6 + v2) m Q))
theorem zq_169_136 {d : Nat} (hd : 1 ≤ d) {v1 : Int32} {Q : zf_Me → Prop} {v2 : Int32} {m : zf_Me} (h : wq_169_136 v1 v2 m Q) : zf_W none 0 0 d zt_169 136 [some (.inr (.inr (1, 63))), some (.inl v1), some (.inl v2), none, none] [] m (zf_O Q) := by
  unfold wq_169_136 at h
  refine zf_bi (v := 6) (pc' := 138) dX8_acts_136 rfl rfl ?_
  refine zf_ld (pc' := 139) (v := .inl v2) dX8_acts_138 rfl (fun _ _ _ => rfl) rfl rfl rfl ?_
  refine zf_in (pc' := 140) (S' := [.inl (6 + v2)]) dX8_acts_139 rfl (fun _ _ _ => rfl) ?_
  refine zf_ld (pc' := 141) (v := .inr (.inr (1, 63))) dX8_acts_140 rfl (fun _ _ _ => rfl) rfl rfl rfl ?_
  refine zf_gfi (pc' := 144) dX8_acts_141 rfl rfl (by decide) rfl rfl ?_
  refine zf_ic (v := 1) (pc' := 145) dX8_acts_144 rfl rfl ?_
  refine zf_icmp_ne (tgt := 152) (pc' := 148) dX8_acts_145 rfl rfl (fun g => ?_) (fun g => ?_)
  · replace h := h.1 g
    refine zf_ic (v := 0) (pc' := 153) dX8_acts_152 rfl rfl ?_
    exact zf_lo (zq_169_153 (by omega) h) ⟨rfl, rfl, trivial⟩
  · replace h := h.2 g
    refine zf_ic (v := 1) (pc' := 149) dX8_acts_148 rfl rfl ?_
    refine zf_goto (tgt := 153) dX8_acts_149 rfl ?_
    exact zf_lo (zq_169_153 (by omega) h) ⟨rfl, rfl, trivial⟩
def wq_169_19 (v1 : Int32) (Q : zf_Me → Prop) : Nat → Int32 → zf_Me → Prop
  | 0, _, _ => False
  | n + 1, v2, m => ((v2.toInt ≥ ((m.1 63 1)).toInt → (∀ m33, m33 = zf_u m 63 6 0 → ((((m33.1 63 3)).toInt ≥ ((m33.1 63 4)).toInt → Q m33) ∧ (((m33.1 63 3)).toInt < ((m33.1 63 4)).toInt → (∀ m35, m35 = zf_u m33 63 3 (m33.1 63 4) → Q m35))))) ∧ (v2.toInt < ((m.1 63 1)).toInt → wp_168 v2 6 m (fun m38 => wq_169_19 v1 Q n (v2 + 1) m38)))
theorem zq_169_19 {d : Nat} (hd : 1 ≤ d) {v1 : Int32} {Q : zf_Me → Prop} : ∀ (n : Nat) (v2 : Int32) (m : zf_Me), wq_169_19 v1 Q n v2 m → zf_W none 0 0 d zt_169 19 [some (.inr (.inr (1, 63))), none, some (.inl v2), none, none] [] m (zf_O Q) := by
  obtain ⟨e, rfl⟩ : ∃ z, d = z + 1 := ⟨d - 1, by omega⟩
  intro n
  induction n with
  | zero =>
    intro v2 m h
    exact h.elim
  | succ n ih =>
    intro v2 m h
    unfold wq_169_19 at h
    refine zf_ld (pc' := 20) (v := .inl v2) dX8_acts_19 rfl (fun _ _ _ => rfl) rfl rfl rfl ?_
    refine zf_ld (pc' := 21) (v := .inr (.inr (1, 63))) dX8_acts_20 rfl (fun _ _ _ => rfl) rfl rfl rfl ?_
    refine zf_gfi (pc' := 24) dX8_acts_21 rfl rfl (by decide) rfl rfl ?_
    refine zf_icmp_ge (tgt := 40) (pc' := 27) dX8_acts_24 rfl rfl (fun g => ?_) (fun g => ?_)
    · replace h := h.1 g
      refine zf_ld (pc' := 41) (v := .inr (.inr (1, 63))) dX8_acts_40 rfl (fun _ _ _ => rfl) rfl rfl rfl ?_
      refine zf_ic (v := 0) (pc' := 42) dX8_acts_41 rfl rfl ?_
      refine zf_pf (pc' := 45) dX8_acts_42 rfl rfl (by decide) rfl rfl rfl (fun m33 e34 => ?_)
      replace h := h m33 e34
      refine zf_ld (pc' := 46) (v := .inr (.inr (1, 63))) dX8_acts_45 rfl (fun _ _ _ => rfl) rfl rfl rfl ?_
      refine zf_gfi (pc' := 49) dX8_acts_46 rfl rfl (by decide) rfl rfl ?_
      refine zf_ld (pc' := 50) (v := .inr (.inr (1, 63))) dX8_acts_49 rfl (fun _ _ _ => rfl) rfl rfl rfl ?_
      refine zf_gfi (pc' := 53) dX8_acts_50 rfl rfl (by decide) rfl rfl ?_
      refine zf_icmp_ge (tgt := 64) (pc' := 56) dX8_acts_53 rfl rfl (fun g => ?_) (fun g => ?_)
      · replace h := h.1 g
        exact zf_rv dX8_acts_64 rfl h
      · replace h := h.2 g
        refine zf_ld (pc' := 57) (v := .inr (.inr (1, 63))) dX8_acts_56 rfl (fun _ _ _ => rfl) rfl rfl rfl ?_
        refine zf_ld (pc' := 58) (v := .inr (.inr (1, 63))) dX8_acts_57 rfl (fun _ _ _ => rfl) rfl rfl rfl ?_
        refine zf_gfi (pc' := 61) dX8_acts_58 rfl rfl (by decide) rfl rfl ?_
        refine zf_pf (pc' := 64) dX8_acts_61 rfl rfl (by decide) rfl rfl rfl (fun m35 e36 => ?_)
        replace h := h m35 e36
        exact zf_rv dX8_acts_64 rfl h
    · replace h := h.2 g
      refine zf_ld (pc' := 28) (v := .inr (.inr (1, 63))) dX8_acts_27 rfl (fun _ _ _ => rfl) rfl rfl rfl ?_
      refine zf_ld (pc' := 29) (v := .inl v2) dX8_acts_28 rfl (fun _ _ _ => rfl) rfl rfl rfl ?_
      refine zf_bi (v := 6) (pc' := 31) dX8_acts_29 rfl rfl ?_
      refine zf_iv (k := 168) (pc' := 34) (r := []) dX8_acts_31 rfl rfl rfl rfl (by decide) rfl rfl rfl (zr_168 (by omega) h) (zf_kO (fun m38 h => ?_))
      refine zf_ii (y := (v2 + 1)) (L2 := [some (.inr (.inr (1, 63))), none, some (.inl (v2 + 1)), none, none]) (pc' := 37) dX8_acts_34 rfl rfl rfl rfl rfl ?_
      refine zf_goto (tgt := 19) dX8_acts_37 rfl ?_
      exact zf_lo (ih _ _ h) ⟨rfl, rfl, trivial⟩
def wp_169 (v1 : Int32) (m : zf_Me) (Q : zf_Me → Prop) : Prop := ((¬ v1.toInt = 9 → ((0 ≤ (Int32.toInt (m.1 63 10)) ∧ (Int32.toInt (m.1 63 10)) < (24 : Int)) ∧ ((v1.toInt ≥ 6 → ((¬ v1.toInt = 7 → wq_169_208 v1 (m.1 65 (Int32.toInt (m.1 63 10)).toNat) m Q) ∧ (v1.toInt = 7 → (∀ m19, m19 = zf_u m 63 7 ((m.1 63 7) - 1) → (((((m19.1 63 3) + 2)).toInt ≤ (((m19.1 63 4) + 2)).toInt → wq_169_205 v1 (m.1 65 (Int32.toInt (m.1 63 10)).toNat) ((m19.1 63 3) + 2) m19 Q) ∧ ((((m19.1 63 3) + 2)).toInt > (((m19.1 63 4) + 2)).toInt → wq_169_205 v1 (m.1 65 (Int32.toInt (m.1 63 10)).toNat) ((m19.1 63 4) + 2) m19 Q)))))) ∧ (v1.toInt < 6 → ((0 ≤ (Int32.toInt v1) ∧ (Int32.toInt v1) < (6 : Int)) ∧ wp_165 v1 (m.1 65 (Int32.toInt (m.1 63 10)).toNat) m (fun x23 m24 => ((0 ≤ (Int32.toInt v1) ∧ (Int32.toInt v1) < (6 : Int)) ∧ ∀ m25, m25 = zf_u m24 69 (Int32.toInt v1).toNat ((m.1 69 (Int32.toInt v1).toNat) + x23) → (∀ m27, m27 = zf_u m25 63 6 ((m25.1 63 6) + 1) → ((¬ (((m27.1 63 6) - (m27.1 63 6) / 2 * 2)).toInt = 0 → wq_169_136 v1 (m.1 65 (Int32.toInt (m.1 63 10)).toNat) m27 Q) ∧ ((((m27.1 63 6) - (m27.1 63 6) / 2 * 2)).toInt = 0 → ((((m27.1 63 3)).toInt ≥ ((m27.1 63 4)).toInt → wq_169_136 v1 (m.1 65 (Int32.toInt (m.1 63 10)).toNat) m27 Q) ∧ (((m27.1 63 3)).toInt < ((m27.1 63 4)).toInt → (∀ m29, m29 = zf_u m27 63 3 ((m27.1 63 3) + 1) → wq_169_136 v1 (m.1 65 (Int32.toInt (m.1 63 10)).toNat) m29 Q))))))))))))) ∧ (v1.toInt = 9 → (∀ m31, m31 = zf_u m 63 11 ((m.1 63 11) + 10) → (∃ n19, wq_169_19 v1 Q n19 0 m31))))
theorem zr_169 {d : Nat} (hd : 1 ≤ d) {v1 : Int32} {Q : zf_Me → Prop} {m : zf_Me} (h : wp_169 v1 m Q) : zf_M d 169 [.inr (.inr (1, 63)), .inl v1] m (zf_O Q) := by
  obtain ⟨e, rfl⟩ : ∃ z, d = z + 1 := ⟨d - 1, by omega⟩
  unfold wp_169 at h
  refine zf_M_of (Nat.le_of_ble_eq_true rfl) zm_169 (L := [some (.inr (.inr (1, 63))), some (.inl v1), none, none, none]) rfl ?_
  refine zf_ld (pc' := 1) (v := .inl v1) dX8_acts_0 rfl (fun _ _ _ => rfl) rfl rfl rfl ?_
  refine zf_bi (v := 9) (pc' := 3) dX8_acts_1 rfl rfl ?_
  refine zf_icmp_ne (tgt := 65) (pc' := 6) dX8_acts_3 rfl rfl (fun g => ?_) (fun g => ?_)
  · replace h := h.1 g
    refine zf_ld (pc' := 66) (v := .inr (.inr (1, 63))) dX8_acts_65 rfl (fun _ _ _ => rfl) rfl rfl rfl ?_
    refine zf_gfr (pc' := 69) (b := 65) dX8_acts_66 rfl rfl (by decide) rfl rfl ?_
    refine zf_ld (pc' := 70) (v := .inr (.inr (1, 63))) dX8_acts_69 rfl (fun _ _ _ => rfl) rfl rfl rfl ?_
    refine zf_gfi (pc' := 73) dX8_acts_70 rfl rfl (by decide) rfl rfl ?_
    refine zf_ial (pc' := 74) dX8_acts_73 rfl (⟨by decide, rfl⟩ : zf_arr 65 24).1 (⟨by decide, rfl⟩ : zf_arr 65 24).2 h.1 rfl ?_
    replace h := h.2
    refine zf_st (pc' := 75) (L2 := [some (.inr (.inr (1, 63))), some (.inl v1), some (.inl (m.1 65 (Int32.toInt (m.1 63 10)).toNat)), none, none]) dX8_acts_74 rfl (fun _ _ _ => rfl) rfl rfl rfl rfl rfl rfl ?_
    refine zf_ld (pc' := 76) (v := .inl v1) dX8_acts_75 rfl (fun _ _ _ => rfl) rfl rfl rfl ?_
    refine zf_bi (v := 6) (pc' := 78) dX8_acts_76 rfl rfl ?_
    refine zf_icmp_ge (tgt := 158) (pc' := 81) dX8_acts_78 rfl rfl (fun g => ?_) (fun g => ?_)
    · replace h := h.1 g
      refine zf_ld (pc' := 159) (v := .inl v1) dX8_acts_158 rfl (fun _ _ _ => rfl) rfl rfl rfl ?_
      refine zf_bi (v := 7) (pc' := 161) dX8_acts_159 rfl rfl ?_
      refine zf_icmp_ne (tgt := 208) (pc' := 164) dX8_acts_161 rfl rfl (fun g => ?_) (fun g => ?_)
      · replace h := h.1 g
        exact zf_lo (zq_169_208 (by omega) h) ⟨rfl, rfl, rfl, trivial⟩
      · replace h := h.2 g
        refine zf_ld (pc' := 165) (v := .inr (.inr (1, 63))) dX8_acts_164 rfl (fun _ _ _ => rfl) rfl rfl rfl ?_
        refine zf_in (pc' := 166) (S' := [.inr (.inr (1, 63)), .inr (.inr (1, 63))]) dX8_acts_165 rfl (fun _ _ _ => rfl) ?_
        refine zf_gfi (pc' := 169) dX8_acts_166 rfl rfl (by decide) rfl rfl ?_
        refine zf_ic (v := 1) (pc' := 170) dX8_acts_169 rfl rfl ?_
        refine zf_in (pc' := 171) (S' := [.inl ((m.1 63 7) - 1), .inr (.inr (1, 63))]) dX8_acts_170 rfl (fun _ _ _ => rfl) ?_
        refine zf_pf (pc' := 174) dX8_acts_171 rfl rfl (by decide) rfl rfl rfl (fun m19 e20 => ?_)
        replace h := h m19 e20
        refine zf_ld (pc' := 175) (v := .inr (.inr (1, 63))) dX8_acts_174 rfl (fun _ _ _ => rfl) rfl rfl rfl ?_
        refine zf_ld (pc' := 176) (v := .inr (.inr (1, 63))) dX8_acts_175 rfl (fun _ _ _ => rfl) rfl rfl rfl ?_
        refine zf_gfi (pc' := 179) dX8_acts_176 rfl rfl (by decide) rfl rfl ?_
        refine zf_ic (v := 2) (pc' := 180) dX8_acts_179 rfl rfl ?_
        refine zf_in (pc' := 181) (S' := [.inl ((m19.1 63 3) + 2), .inr (.inr (1, 63))]) dX8_acts_180 rfl (fun _ _ _ => rfl) ?_
        refine zf_ld (pc' := 182) (v := .inr (.inr (1, 63))) dX8_acts_181 rfl (fun _ _ _ => rfl) rfl rfl rfl ?_
        refine zf_gfi (pc' := 185) dX8_acts_182 rfl rfl (by decide) rfl rfl ?_
        refine zf_ic (v := 2) (pc' := 186) dX8_acts_185 rfl rfl ?_
        refine zf_in (pc' := 187) (S' := [.inl ((m19.1 63 4) + 2), .inl ((m19.1 63 3) + 2), .inr (.inr (1, 63))]) dX8_acts_186 rfl (fun _ _ _ => rfl) ?_
        refine zf_icmp_le (tgt := 199) (pc' := 190) dX8_acts_187 rfl rfl (fun g => ?_) (fun g => ?_)
        · replace h := h.1 g
          refine zf_ld (pc' := 200) (v := .inr (.inr (1, 63))) dX8_acts_199 rfl (fun _ _ _ => rfl) rfl rfl rfl ?_
          refine zf_gfi (pc' := 203) dX8_acts_200 rfl rfl (by decide) rfl rfl ?_
          refine zf_ic (v := 2) (pc' := 204) dX8_acts_203 rfl rfl ?_
          refine zf_in (pc' := 205) (S' := [.inl ((m19.1 63 3) + 2), .inr (.inr (1, 63))]) dX8_acts_204 rfl (fun _ _ _ => rfl) ?_
          exact zf_lo (zq_169_205 (by omega) h) ⟨rfl, rfl, rfl, trivial⟩
        · replace h := h.2 g
          refine zf_ld (pc' := 191) (v := .inr (.inr (1, 63))) dX8_acts_190 rfl (fun _ _ _ => rfl) rfl rfl rfl ?_
          refine zf_gfi (pc' := 194) dX8_acts_191 rfl rfl (by decide) rfl rfl ?_
          refine zf_ic (v := 2) (pc' := 195) dX8_acts_194 rfl rfl ?_
          refine zf_in (pc' := 196) (S' := [.inl ((m19.1 63 4) + 2), .inr (.inr (1, 63))]) dX8_acts_195 rfl (fun _ _ _ => rfl) ?_
          refine zf_goto (tgt := 205) dX8_acts_196 rfl ?_
          exact zf_lo (zq_169_205 (by omega) h) ⟨rfl, rfl, rfl, trivial⟩
    · replace h := h.2 g
      refine zf_ld (pc' := 82) (v := .inr (.inr (1, 63))) dX8_acts_81 rfl (fun _ _ _ => rfl) rfl rfl rfl ?_
      refine zf_gfr (pc' := 85) (b := 69) dX8_acts_82 rfl rfl (by decide) rfl rfl ?_
      refine zf_ld (pc' := 86) (v := .inl v1) dX8_acts_85 rfl (fun _ _ _ => rfl) rfl rfl rfl ?_
      refine zf_in (pc' := 87) (S' := [.inl v1, .inr (.inr (1, 69)), .inl v1, .inr (.inr (1, 69))]) dX8_acts_86 rfl (fun _ _ _ => rfl) ?_
      refine zf_ial (pc' := 88) dX8_acts_87 rfl (⟨by decide, rfl⟩ : zf_arr 69 6).1 (⟨by decide, rfl⟩ : zf_arr 69 6).2 h.1 rfl ?_
      replace h := h.2
      refine zf_ld (pc' := 89) (v := .inr (.inr (1, 63))) dX8_acts_88 rfl (fun _ _ _ => rfl) rfl rfl rfl ?_
      refine zf_ld (pc' := 90) (v := .inl v1) dX8_acts_89 rfl (fun _ _ _ => rfl) rfl rfl rfl ?_
      refine zf_ld (pc' := 91) (v := .inl (m.1 65 (Int32.toInt (m.1 63 10)).toNat)) dX8_acts_90 rfl (fun _ _ _ => rfl) rfl rfl rfl ?_
      refine zf_iv (k := 165) (pc' := 94) (r := [.inl (m.1 69 (Int32.toInt v1).toNat), .inl v1, .inr (.inr (1, 69))]) dX8_acts_91 rfl rfl rfl rfl (by decide) rfl rfl rfl (zr_165 (by omega) h) (zf_kI (fun x23 m24 h => ?_))
      refine zf_in (pc' := 95) (S' := [.inl ((m.1 69 (Int32.toInt v1).toNat) + x23), .inl v1, .inr (.inr (1, 69))]) dX8_acts_94 rfl (fun _ _ _ => rfl) ?_
      refine zf_ias (pc' := 96) dX8_acts_95 rfl (⟨by decide, rfl⟩ : zf_arr 69 6).1 (⟨by decide, rfl⟩ : zf_arr 69 6).2 h.1 rfl (fun m25 e26 => ?_)
      replace h := h.2 m25 e26
      refine zf_ld (pc' := 97) (v := .inr (.inr (1, 63))) dX8_acts_96 rfl (fun _ _ _ => rfl) rfl rfl rfl ?_
      refine zf_in (pc' := 98) (S' := [.inr (.inr (1, 63)), .inr (.inr (1, 63))]) dX8_acts_97 rfl (fun _ _ _ => rfl) ?_
      refine zf_gfi (pc' := 101) dX8_acts_98 rfl rfl (by decide) rfl rfl ?_
      refine zf_ic (v := 1) (pc' := 102) dX8_acts_101 rfl rfl ?_
      refine zf_in (pc' := 103) (S' := [.inl ((m25.1 63 6) + 1), .inr (.inr (1, 63))]) dX8_acts_102 rfl (fun _ _ _ => rfl) ?_
      refine zf_pf (pc' := 106) dX8_acts_103 rfl rfl (by decide) rfl rfl rfl (fun m27 e28 => ?_)
      replace h := h m27 e28
      refine zf_ld (pc' := 107) (v := .inr (.inr (1, 63))) dX8_acts_106 rfl (fun _ _ _ => rfl) rfl rfl rfl ?_
      refine zf_gfi (pc' := 110) dX8_acts_107 rfl rfl (by decide) rfl rfl ?_
      refine zf_ic (v := 2) (pc' := 111) dX8_acts_110 rfl rfl ?_
      refine zf_rem (pc' := 112) dX8_acts_111 rfl (by decide) ?_
      refine zf_if_ne (tgt := 136) (pc' := 115) dX8_acts_112 rfl rfl (fun g => ?_) (fun g => ?_)
      · replace h := h.1 g
        exact zf_lo (zq_169_136 (by omega) h) ⟨rfl, rfl, rfl, trivial⟩
      · replace h := h.2 g
        refine zf_ld (pc' := 116) (v := .inr (.inr (1, 63))) dX8_acts_115 rfl (fun _ _ _ => rfl) rfl rfl rfl ?_
        refine zf_gfi (pc' := 119) dX8_acts_116 rfl rfl (by decide) rfl rfl ?_
        refine zf_ld (pc' := 120) (v := .inr (.inr (1, 63))) dX8_acts_119 rfl (fun _ _ _ => rfl) rfl rfl rfl ?_
        refine zf_gfi (pc' := 123) dX8_acts_120 rfl rfl (by decide) rfl rfl ?_
        refine zf_icmp_ge (tgt := 136) (pc' := 126) dX8_acts_123 rfl rfl (fun g => ?_) (fun g => ?_)
        · replace h := h.1 g
          exact zf_lo (zq_169_136 (by omega) h) ⟨rfl, rfl, rfl, trivial⟩
        · replace h := h.2 g
          refine zf_ld (pc' := 127) (v := .inr (.inr (1, 63))) dX8_acts_126 rfl (fun _ _ _ => rfl) rfl rfl rfl ?_
          refine zf_in (pc' := 128) (S' := [.inr (.inr (1, 63)), .inr (.inr (1, 63))]) dX8_acts_127 rfl (fun _ _ _ => rfl) ?_
          refine zf_gfi (pc' := 131) dX8_acts_128 rfl rfl (by decide) rfl rfl ?_
          refine zf_ic (v := 1) (pc' := 132) dX8_acts_131 rfl rfl ?_
          refine zf_in (pc' := 133) (S' := [.inl ((m27.1 63 3) + 1), .inr (.inr (1, 63))]) dX8_acts_132 rfl (fun _ _ _ => rfl) ?_
          refine zf_pf (pc' := 136) dX8_acts_133 rfl rfl (by decide) rfl rfl rfl (fun m29 e30 => ?_)
          replace h := h m29 e30
          exact zf_lo (zq_169_136 (by omega) h) ⟨rfl, rfl, rfl, trivial⟩
  · replace h := h.2 g
    refine zf_ld (pc' := 7) (v := .inr (.inr (1, 63))) dX8_acts_6 rfl (fun _ _ _ => rfl) rfl rfl rfl ?_
    refine zf_in (pc' := 8) (S' := [.inr (.inr (1, 63)), .inr (.inr (1, 63))]) dX8_acts_7 rfl (fun _ _ _ => rfl) ?_
    refine zf_gfi (pc' := 11) dX8_acts_8 rfl rfl (by decide) rfl rfl ?_
    refine zf_bi (v := 10) (pc' := 13) dX8_acts_11 rfl rfl ?_
    refine zf_in (pc' := 14) (S' := [.inl ((m.1 63 11) + 10), .inr (.inr (1, 63))]) dX8_acts_13 rfl (fun _ _ _ => rfl) ?_
    refine zf_pf (pc' := 17) dX8_acts_14 rfl rfl (by decide) rfl rfl rfl (fun m31 e32 => ?_)
    replace h := h m31 e32
    refine zf_ic (v := 0) (pc' := 18) dX8_acts_17 rfl rfl ?_
    refine zf_st (pc' := 19) (L2 := [some (.inr (.inr (1, 63))), some (.inl v1), some (.inl 0), none, none]) dX8_acts_18 rfl (fun _ _ _ => rfl) rfl rfl rfl rfl rfl rfl ?_
    obtain ⟨n19, h⟩ := h
    exact zf_lo (zq_169_19 (by omega) n19 _ _ h) ⟨rfl, rfl, trivial⟩
end
