/-! part 24: methods 1..: laid by wip/flat/dec.py -/
def zt_1 : zx_MT := (0, yX0_forget, cX0_forget, 1, none, 0, 0)
theorem zm_1 : zx_m 1 = zt_1 := rfl
theorem dX0_forget_r0 : zdcP cX0_forget 0 [(.aload_n 0, 1), (.iconst 0, 1), (.putfield 15, 3), (.return_, 1)] := zdcA_ok (by decide +kernel)
theorem dX0_forget_0 : decode cX0_forget 0 = .ok (.aload_n 0, 1) := dX0_forget_r0.1
theorem dX0_forget_1 : decode cX0_forget 1 = .ok (.iconst 0, 1) := dX0_forget_r0.2.1
theorem dX0_forget_2 : decode cX0_forget 2 = .ok (.putfield 15, 3) := dX0_forget_r0.2.2.1
theorem dX0_forget_5 : decode cX0_forget 5 = .ok (.return_, 1) := dX0_forget_r0.2.2.2.1
def wp_1 (m : zf_Me) (Q : zf_Me → Prop) : Prop := (∀ m1, m1 = zf_u m 44 1 0 → Q m1)
theorem zr_1 {d : Nat} (hd : 0 ≤ d) {Q : zf_Me → Prop} {m : zf_Me} (h : wp_1 m Q) : zf_M d 1 [.inr (.inr (1, 44))] m (zf_O Q) := by
  unfold wp_1 at h
  refine zf_M_of (Nat.le_of_ble_eq_true rfl) zm_1 (L := [some (.inr (.inr (1, 44)))]) rfl ?_
  refine zf_ld (pc' := 1) (v := .inr (.inr (1, 44))) dX0_forget_0 rfl (fun _ _ _ => rfl) rfl rfl rfl ?_
  refine zf_ic (v := 0) (pc' := 2) dX0_forget_1 rfl rfl ?_
  refine zf_pf (pc' := 5) dX0_forget_2 rfl rfl (by decide) rfl rfl rfl (fun m1 e2 => ?_)
  replace h := h m1 e2
  exact zf_rv dX0_forget_5 rfl h
def zt_115 : zx_MT := (7, yX7_isKind, cX7_isKind, 1, (some FieldType.boolean), 1, 1)
theorem zm_115 : zx_m 115 = zt_115 := rfl
theorem dX7_isKind_r0 : zdcP cX7_isKind 0 [(.iload_n 0, 1), (.ifCond .lt 13, 3), (.iload_n 0, 1), (.bipush 7, 2), (.if_icmp .ge 7, 3), (.iconst 1, 1), (.goto 4, 3), (.iconst 0, 1), (.ireturn, 1)] := zdcA_ok (by decide +kernel)
theorem dX7_isKind_0 : decode cX7_isKind 0 = .ok (.iload_n 0, 1) := dX7_isKind_r0.1
theorem dX7_isKind_1 : decode cX7_isKind 1 = .ok (.ifCond .lt 13, 3) := dX7_isKind_r0.2.1
theorem dX7_isKind_4 : decode cX7_isKind 4 = .ok (.iload_n 0, 1) := dX7_isKind_r0.2.2.1
theorem dX7_isKind_5 : decode cX7_isKind 5 = .ok (.bipush 7, 2) := dX7_isKind_r0.2.2.2.1
theorem dX7_isKind_7 : decode cX7_isKind 7 = .ok (.if_icmp .ge 7, 3) := dX7_isKind_r0.2.2.2.2.1
theorem dX7_isKind_10 : decode cX7_isKind 10 = .ok (.iconst 1, 1) := dX7_isKind_r0.2.2.2.2.2.1
theorem dX7_isKind_11 : decode cX7_isKind 11 = .ok (.goto 4, 3) := dX7_isKind_r0.2.2.2.2.2.2.1
theorem dX7_isKind_14 : decode cX7_isKind 14 = .ok (.iconst 0, 1) := dX7_isKind_r0.2.2.2.2.2.2.2.1
theorem dX7_isKind_15 : decode cX7_isKind 15 = .ok (.ireturn, 1) := dX7_isKind_r0.2.2.2.2.2.2.2.2.1
def wp_115 (v0 : Int32) (m : zf_Me) (Q : Bool → zf_Me → Prop) : Prop := ((v0.toInt < 0 → Q false m) ∧ (v0.toInt ≥ 0 → ((v0.toInt ≥ 7 → Q false m) ∧ (v0.toInt < 7 → Q true m))))
theorem zr_115 {d : Nat} (hd : 0 ≤ d) {v0 : Int32} {Q : Bool → zf_Me → Prop} {m : zf_Me} (h : wp_115 v0 m Q) : zf_M d 115 [.inl v0] m (zf_B Q) := by
  unfold wp_115 at h
  refine zf_M_of (Nat.le_of_ble_eq_true rfl) zm_115 (L := [some (.inl v0)]) rfl ?_
  refine zf_ld (pc' := 1) (v := .inl v0) dX7_isKind_0 rfl (fun _ _ _ => rfl) rfl rfl rfl ?_
  refine zf_if_lt (tgt := 14) (pc' := 4) dX7_isKind_1 rfl rfl (fun g => ?_) (fun g => ?_)
  · replace h := h.1 g
    refine zf_ic (v := 0) (pc' := 15) dX7_isKind_14 rfl rfl ?_
    exact zf_rb (b := false) dX7_isKind_15 rfl h
  · replace h := h.2 g
    refine zf_ld (pc' := 5) (v := .inl v0) dX7_isKind_4 rfl (fun _ _ _ => rfl) rfl rfl rfl ?_
    refine zf_bi (v := 7) (pc' := 7) dX7_isKind_5 rfl rfl ?_
    refine zf_icmp_ge (tgt := 14) (pc' := 10) dX7_isKind_7 rfl rfl (fun g => ?_) (fun g => ?_)
    · replace h := h.1 g
      refine zf_ic (v := 0) (pc' := 15) dX7_isKind_14 rfl rfl ?_
      exact zf_rb (b := false) dX7_isKind_15 rfl h
    · replace h := h.2 g
      refine zf_ic (v := 1) (pc' := 11) dX7_isKind_10 rfl rfl ?_
      refine zf_goto (tgt := 15) dX7_isKind_11 rfl ?_
      exact zf_rb (b := true) dX7_isKind_15 rfl h
def zt_5 : zx_MT := (0, yX0_runBody, cX0_runBody, 5, (some FieldType.int), 4, 0)
theorem zm_5 : zx_m 5 = zt_5 := rfl
theorem dX0_runBody_0 : decode cX0_runBody 0 = .ok (.iload_n 1, 1) := zdc_ok (by decide +kernel)
theorem dX0_runBody_1 : decode cX0_runBody 1 = .ok (.lookupswitch 233 #[(10, 91), (11, 98), (12, 113), (20, 144), (30, 159), (40, 171), (50, 183), (51, 194), (60, 209), (70, 221)], 91) := by decide +kernel
theorem dX0_runBody_r92 : zdcP cX0_runBody 92 [(.iload_n 3, 1), (.aload_n 0, 1), (.getfield 22, 3), (.iadd, 1), (.ireturn, 1), (.aload_n 0, 1), (.aload_n 0, 1), (.getfield 19, 3), (.iconst 0, 1), (.iload_n 3, 1), (.iload 4, 2), (.invokevirtual 39, 3), (.iconst 2, 1), (.imul, 1), (.ireturn, 1), (.aload_n 0, 1)] := zdcA_ok (by decide +kernel)
theorem dX0_runBody_92 : decode cX0_runBody 92 = .ok (.iload_n 3, 1) := dX0_runBody_r92.1
theorem dX0_runBody_93 : decode cX0_runBody 93 = .ok (.aload_n 0, 1) := dX0_runBody_r92.2.1
theorem dX0_runBody_94 : decode cX0_runBody 94 = .ok (.getfield 22, 3) := dX0_runBody_r92.2.2.1
theorem dX0_runBody_97 : decode cX0_runBody 97 = .ok (.iadd, 1) := dX0_runBody_r92.2.2.2.1
theorem dX0_runBody_98 : decode cX0_runBody 98 = .ok (.ireturn, 1) := dX0_runBody_r92.2.2.2.2.1
theorem dX0_runBody_99 : decode cX0_runBody 99 = .ok (.aload_n 0, 1) := dX0_runBody_r92.2.2.2.2.2.1
theorem dX0_runBody_100 : decode cX0_runBody 100 = .ok (.aload_n 0, 1) := dX0_runBody_r92.2.2.2.2.2.2.1
theorem dX0_runBody_101 : decode cX0_runBody 101 = .ok (.getfield 19, 3) := dX0_runBody_r92.2.2.2.2.2.2.2.1
theorem dX0_runBody_104 : decode cX0_runBody 104 = .ok (.iconst 0, 1) := dX0_runBody_r92.2.2.2.2.2.2.2.2.1
theorem dX0_runBody_105 : decode cX0_runBody 105 = .ok (.iload_n 3, 1) := dX0_runBody_r92.2.2.2.2.2.2.2.2.2.1
theorem dX0_runBody_106 : decode cX0_runBody 106 = .ok (.iload 4, 2) := dX0_runBody_r92.2.2.2.2.2.2.2.2.2.2.1
theorem dX0_runBody_108 : decode cX0_runBody 108 = .ok (.invokevirtual 39, 3) := dX0_runBody_r92.2.2.2.2.2.2.2.2.2.2.2.1
theorem dX0_runBody_111 : decode cX0_runBody 111 = .ok (.iconst 2, 1) := dX0_runBody_r92.2.2.2.2.2.2.2.2.2.2.2.2.1
theorem dX0_runBody_112 : decode cX0_runBody 112 = .ok (.imul, 1) := dX0_runBody_r92.2.2.2.2.2.2.2.2.2.2.2.2.2.1
theorem dX0_runBody_113 : decode cX0_runBody 113 = .ok (.ireturn, 1) := dX0_runBody_r92.2.2.2.2.2.2.2.2.2.2.2.2.2.2.1
theorem dX0_runBody_114 : decode cX0_runBody 114 = .ok (.aload_n 0, 1) := dX0_runBody_r92.2.2.2.2.2.2.2.2.2.2.2.2.2.2.2.1
theorem dX0_runBody_r115 : zdcP cX0_runBody 115 [(.aload_n 0, 1), (.getfield 19, 3), (.iconst 1, 1), (.iload_n 3, 1), (.iload 4, 2), (.invokevirtual 39, 3), (.aload_n 0, 1), (.aload_n 0, 1), (.getfield 19, 3), (.iconst 0, 1), (.iload_n 3, 1), (.aload_n 0, 1), (.getfield 25, 3), (.isub, 1), (.iload 4, 2), (.invokevirtual 39, 3)] := zdcA_ok (by decide +kernel)
theorem dX0_runBody_115 : decode cX0_runBody 115 = .ok (.aload_n 0, 1) := dX0_runBody_r115.1
theorem dX0_runBody_116 : decode cX0_runBody 116 = .ok (.getfield 19, 3) := dX0_runBody_r115.2.1
theorem dX0_runBody_119 : decode cX0_runBody 119 = .ok (.iconst 1, 1) := dX0_runBody_r115.2.2.1
theorem dX0_runBody_120 : decode cX0_runBody 120 = .ok (.iload_n 3, 1) := dX0_runBody_r115.2.2.2.1
theorem dX0_runBody_121 : decode cX0_runBody 121 = .ok (.iload 4, 2) := dX0_runBody_r115.2.2.2.2.1
theorem dX0_runBody_123 : decode cX0_runBody 123 = .ok (.invokevirtual 39, 3) := dX0_runBody_r115.2.2.2.2.2.1
theorem dX0_runBody_126 : decode cX0_runBody 126 = .ok (.aload_n 0, 1) := dX0_runBody_r115.2.2.2.2.2.2.1
theorem dX0_runBody_127 : decode cX0_runBody 127 = .ok (.aload_n 0, 1) := dX0_runBody_r115.2.2.2.2.2.2.2.1
theorem dX0_runBody_128 : decode cX0_runBody 128 = .ok (.getfield 19, 3) := dX0_runBody_r115.2.2.2.2.2.2.2.2.1
theorem dX0_runBody_131 : decode cX0_runBody 131 = .ok (.iconst 0, 1) := dX0_runBody_r115.2.2.2.2.2.2.2.2.2.1
theorem dX0_runBody_132 : decode cX0_runBody 132 = .ok (.iload_n 3, 1) := dX0_runBody_r115.2.2.2.2.2.2.2.2.2.2.1
theorem dX0_runBody_133 : decode cX0_runBody 133 = .ok (.aload_n 0, 1) := dX0_runBody_r115.2.2.2.2.2.2.2.2.2.2.2.1
theorem dX0_runBody_134 : decode cX0_runBody 134 = .ok (.getfield 25, 3) := dX0_runBody_r115.2.2.2.2.2.2.2.2.2.2.2.2.1
theorem dX0_runBody_137 : decode cX0_runBody 137 = .ok (.isub, 1) := dX0_runBody_r115.2.2.2.2.2.2.2.2.2.2.2.2.2.1
theorem dX0_runBody_138 : decode cX0_runBody 138 = .ok (.iload 4, 2) := dX0_runBody_r115.2.2.2.2.2.2.2.2.2.2.2.2.2.2.1
theorem dX0_runBody_140 : decode cX0_runBody 140 = .ok (.invokevirtual 39, 3) := dX0_runBody_r115.2.2.2.2.2.2.2.2.2.2.2.2.2.2.2.1
theorem dX0_runBody_r143 : zdcP cX0_runBody 143 [(.ixor, 1), (.ireturn, 1), (.aload_n 0, 1), (.iload_n 2, 1), (.iconst 0, 1), (.iload_n 3, 1), (.iload 4, 2), (.invokevirtual 39, 3), (.aload_n 0, 1), (.getfield 25, 3), (.iadd, 1), (.ireturn, 1), (.aload_n 0, 1), (.iload_n 2, 1), (.iconst 1, 1), (.iload_n 3, 1)] := zdcA_ok (by decide +kernel)
theorem dX0_runBody_143 : decode cX0_runBody 143 = .ok (.ixor, 1) := dX0_runBody_r143.1
theorem dX0_runBody_144 : decode cX0_runBody 144 = .ok (.ireturn, 1) := dX0_runBody_r143.2.1
theorem dX0_runBody_145 : decode cX0_runBody 145 = .ok (.aload_n 0, 1) := dX0_runBody_r143.2.2.1
theorem dX0_runBody_146 : decode cX0_runBody 146 = .ok (.iload_n 2, 1) := dX0_runBody_r143.2.2.2.1
theorem dX0_runBody_147 : decode cX0_runBody 147 = .ok (.iconst 0, 1) := dX0_runBody_r143.2.2.2.2.1
theorem dX0_runBody_148 : decode cX0_runBody 148 = .ok (.iload_n 3, 1) := dX0_runBody_r143.2.2.2.2.2.1
theorem dX0_runBody_149 : decode cX0_runBody 149 = .ok (.iload 4, 2) := dX0_runBody_r143.2.2.2.2.2.2.1
theorem dX0_runBody_151 : decode cX0_runBody 151 = .ok (.invokevirtual 39, 3) := dX0_runBody_r143.2.2.2.2.2.2.2.1
theorem dX0_runBody_154 : decode cX0_runBody 154 = .ok (.aload_n 0, 1) := dX0_runBody_r143.2.2.2.2.2.2.2.2.1
theorem dX0_runBody_155 : decode cX0_runBody 155 = .ok (.getfield 25, 3) := dX0_runBody_r143.2.2.2.2.2.2.2.2.2.1
theorem dX0_runBody_158 : decode cX0_runBody 158 = .ok (.iadd, 1) := dX0_runBody_r143.2.2.2.2.2.2.2.2.2.2.1
theorem dX0_runBody_159 : decode cX0_runBody 159 = .ok (.ireturn, 1) := dX0_runBody_r143.2.2.2.2.2.2.2.2.2.2.2.1
theorem dX0_runBody_160 : decode cX0_runBody 160 = .ok (.aload_n 0, 1) := dX0_runBody_r143.2.2.2.2.2.2.2.2.2.2.2.2.1
theorem dX0_runBody_161 : decode cX0_runBody 161 = .ok (.iload_n 2, 1) := dX0_runBody_r143.2.2.2.2.2.2.2.2.2.2.2.2.2.1
theorem dX0_runBody_162 : decode cX0_runBody 162 = .ok (.iconst 1, 1) := dX0_runBody_r143.2.2.2.2.2.2.2.2.2.2.2.2.2.2.1
theorem dX0_runBody_163 : decode cX0_runBody 163 = .ok (.iload_n 3, 1) := dX0_runBody_r143.2.2.2.2.2.2.2.2.2.2.2.2.2.2.2.1
theorem dX0_runBody_r164 : zdcP cX0_runBody 164 [(.iload 4, 2), (.invokevirtual 39, 3), (.iconst 3, 1), (.imul, 1), (.ireturn, 1), (.aload_n 0, 1), (.iload_n 2, 1), (.iconst 1, 1), (.iload_n 3, 1), (.iconst 1, 1), (.iadd, 1), (.iload 4, 2), (.invokevirtual 39, 3), (.ireturn, 1), (.aload_n 0, 1), (.iload_n 2, 1)] := zdcA_ok (by decide +kernel)
theorem dX0_runBody_164 : decode cX0_runBody 164 = .ok (.iload 4, 2) := dX0_runBody_r164.1
theorem dX0_runBody_166 : decode cX0_runBody 166 = .ok (.invokevirtual 39, 3) := dX0_runBody_r164.2.1
theorem dX0_runBody_169 : decode cX0_runBody 169 = .ok (.iconst 3, 1) := dX0_runBody_r164.2.2.1
theorem dX0_runBody_170 : decode cX0_runBody 170 = .ok (.imul, 1) := dX0_runBody_r164.2.2.2.1
theorem dX0_runBody_171 : decode cX0_runBody 171 = .ok (.ireturn, 1) := dX0_runBody_r164.2.2.2.2.1
theorem dX0_runBody_172 : decode cX0_runBody 172 = .ok (.aload_n 0, 1) := dX0_runBody_r164.2.2.2.2.2.1
theorem dX0_runBody_173 : decode cX0_runBody 173 = .ok (.iload_n 2, 1) := dX0_runBody_r164.2.2.2.2.2.2.1
theorem dX0_runBody_174 : decode cX0_runBody 174 = .ok (.iconst 1, 1) := dX0_runBody_r164.2.2.2.2.2.2.2.1
theorem dX0_runBody_175 : decode cX0_runBody 175 = .ok (.iload_n 3, 1) := dX0_runBody_r164.2.2.2.2.2.2.2.2.1
theorem dX0_runBody_176 : decode cX0_runBody 176 = .ok (.iconst 1, 1) := dX0_runBody_r164.2.2.2.2.2.2.2.2.2.1
theorem dX0_runBody_177 : decode cX0_runBody 177 = .ok (.iadd, 1) := dX0_runBody_r164.2.2.2.2.2.2.2.2.2.2.1
theorem dX0_runBody_178 : decode cX0_runBody 178 = .ok (.iload 4, 2) := dX0_runBody_r164.2.2.2.2.2.2.2.2.2.2.2.1
theorem dX0_runBody_180 : decode cX0_runBody 180 = .ok (.invokevirtual 39, 3) := dX0_runBody_r164.2.2.2.2.2.2.2.2.2.2.2.2.1
theorem dX0_runBody_183 : decode cX0_runBody 183 = .ok (.ireturn, 1) := dX0_runBody_r164.2.2.2.2.2.2.2.2.2.2.2.2.2.1
theorem dX0_runBody_184 : decode cX0_runBody 184 = .ok (.aload_n 0, 1) := dX0_runBody_r164.2.2.2.2.2.2.2.2.2.2.2.2.2.2.1
theorem dX0_runBody_185 : decode cX0_runBody 185 = .ok (.iload_n 2, 1) := dX0_runBody_r164.2.2.2.2.2.2.2.2.2.2.2.2.2.2.2.1
theorem dX0_runBody_r186 : zdcP cX0_runBody 186 [(.iconst 2, 1), (.iload_n 3, 1), (.iload 4, 2), (.invokevirtual 39, 3), (.ineg, 1), (.ireturn, 1), (.aload_n 0, 1), (.iload_n 2, 1), (.iconst 0, 1), (.iload_n 3, 1), (.iload 4, 2), (.invokevirtual 39, 3), (.aload_n 0, 1), (.getfield 22, 3), (.isub, 1), (.ireturn, 1)] := zdcA_ok (by decide +kernel)
theorem dX0_runBody_186 : decode cX0_runBody 186 = .ok (.iconst 2, 1) := dX0_runBody_r186.1
theorem dX0_runBody_187 : decode cX0_runBody 187 = .ok (.iload_n 3, 1) := dX0_runBody_r186.2.1
theorem dX0_runBody_188 : decode cX0_runBody 188 = .ok (.iload 4, 2) := dX0_runBody_r186.2.2.1
theorem dX0_runBody_190 : decode cX0_runBody 190 = .ok (.invokevirtual 39, 3) := dX0_runBody_r186.2.2.2.1
theorem dX0_runBody_193 : decode cX0_runBody 193 = .ok (.ineg, 1) := dX0_runBody_r186.2.2.2.2.1
theorem dX0_runBody_194 : decode cX0_runBody 194 = .ok (.ireturn, 1) := dX0_runBody_r186.2.2.2.2.2.1
theorem dX0_runBody_195 : decode cX0_runBody 195 = .ok (.aload_n 0, 1) := dX0_runBody_r186.2.2.2.2.2.2.1
theorem dX0_runBody_196 : decode cX0_runBody 196 = .ok (.iload_n 2, 1) := dX0_runBody_r186.2.2.2.2.2.2.2.1
theorem dX0_runBody_197 : decode cX0_runBody 197 = .ok (.iconst 0, 1) := dX0_runBody_r186.2.2.2.2.2.2.2.2.1
theorem dX0_runBody_198 : decode cX0_runBody 198 = .ok (.iload_n 3, 1) := dX0_runBody_r186.2.2.2.2.2.2.2.2.2.1
theorem dX0_runBody_199 : decode cX0_runBody 199 = .ok (.iload 4, 2) := dX0_runBody_r186.2.2.2.2.2.2.2.2.2.2.1
theorem dX0_runBody_201 : decode cX0_runBody 201 = .ok (.invokevirtual 39, 3) := dX0_runBody_r186.2.2.2.2.2.2.2.2.2.2.2.1
theorem dX0_runBody_204 : decode cX0_runBody 204 = .ok (.aload_n 0, 1) := dX0_runBody_r186.2.2.2.2.2.2.2.2.2.2.2.2.1
theorem dX0_runBody_205 : decode cX0_runBody 205 = .ok (.getfield 22, 3) := dX0_runBody_r186.2.2.2.2.2.2.2.2.2.2.2.2.2.1
theorem dX0_runBody_208 : decode cX0_runBody 208 = .ok (.isub, 1) := dX0_runBody_r186.2.2.2.2.2.2.2.2.2.2.2.2.2.2.1
theorem dX0_runBody_209 : decode cX0_runBody 209 = .ok (.ireturn, 1) := dX0_runBody_r186.2.2.2.2.2.2.2.2.2.2.2.2.2.2.2.1
theorem dX0_runBody_r210 : zdcP cX0_runBody 210 [(.aload_n 0, 1), (.iload_n 2, 1), (.iconst 2, 1), (.iload_n 3, 1), (.iload 4, 2), (.invokevirtual 39, 3), (.iconst 5, 1), (.ixor, 1), (.ireturn, 1), (.aload_n 0, 1), (.iload_n 2, 1), (.iconst 0, 1), (.iload_n 3, 1), (.iload 4, 2), (.invokevirtual 39, 3), (.iconst 2, 1)] := zdcA_ok (by decide +kernel)
theorem dX0_runBody_210 : decode cX0_runBody 210 = .ok (.aload_n 0, 1) := dX0_runBody_r210.1
theorem dX0_runBody_211 : decode cX0_runBody 211 = .ok (.iload_n 2, 1) := dX0_runBody_r210.2.1
theorem dX0_runBody_212 : decode cX0_runBody 212 = .ok (.iconst 2, 1) := dX0_runBody_r210.2.2.1
theorem dX0_runBody_213 : decode cX0_runBody 213 = .ok (.iload_n 3, 1) := dX0_runBody_r210.2.2.2.1
theorem dX0_runBody_214 : decode cX0_runBody 214 = .ok (.iload 4, 2) := dX0_runBody_r210.2.2.2.2.1
theorem dX0_runBody_216 : decode cX0_runBody 216 = .ok (.invokevirtual 39, 3) := dX0_runBody_r210.2.2.2.2.2.1
theorem dX0_runBody_219 : decode cX0_runBody 219 = .ok (.iconst 5, 1) := dX0_runBody_r210.2.2.2.2.2.2.1
theorem dX0_runBody_220 : decode cX0_runBody 220 = .ok (.ixor, 1) := dX0_runBody_r210.2.2.2.2.2.2.2.1
theorem dX0_runBody_221 : decode cX0_runBody 221 = .ok (.ireturn, 1) := dX0_runBody_r210.2.2.2.2.2.2.2.2.1
theorem dX0_runBody_222 : decode cX0_runBody 222 = .ok (.aload_n 0, 1) := dX0_runBody_r210.2.2.2.2.2.2.2.2.2.1
theorem dX0_runBody_223 : decode cX0_runBody 223 = .ok (.iload_n 2, 1) := dX0_runBody_r210.2.2.2.2.2.2.2.2.2.2.1
theorem dX0_runBody_224 : decode cX0_runBody 224 = .ok (.iconst 0, 1) := dX0_runBody_r210.2.2.2.2.2.2.2.2.2.2.2.1
theorem dX0_runBody_225 : decode cX0_runBody 225 = .ok (.iload_n 3, 1) := dX0_runBody_r210.2.2.2.2.2.2.2.2.2.2.2.2.1
theorem dX0_runBody_226 : decode cX0_runBody 226 = .ok (.iload 4, 2) := dX0_runBody_r210.2.2.2.2.2.2.2.2.2.2.2.2.2.1
theorem dX0_runBody_228 : decode cX0_runBody 228 = .ok (.invokevirtual 39, 3) := dX0_runBody_r210.2.2.2.2.2.2.2.2.2.2.2.2.2.2.1
theorem dX0_runBody_231 : decode cX0_runBody 231 = .ok (.iconst 2, 1) := dX0_runBody_r210.2.2.2.2.2.2.2.2.2.2.2.2.2.2.2.1
theorem dX0_runBody_r232 : zdcP cX0_runBody 232 [(.imul, 1), (.ireturn, 1), (.aload_n 0, 1), (.iload_n 2, 1), (.iconst 1, 1), (.iload_n 3, 1), (.aload_n 0, 1), (.getfield 25, 3), (.isub, 1), (.iload 4, 2), (.invokevirtual 39, 3), (.ireturn, 1)] := zdcA_ok (by decide +kernel)
theorem dX0_runBody_232 : decode cX0_runBody 232 = .ok (.imul, 1) := dX0_runBody_r232.1
theorem dX0_runBody_233 : decode cX0_runBody 233 = .ok (.ireturn, 1) := dX0_runBody_r232.2.1
theorem dX0_runBody_234 : decode cX0_runBody 234 = .ok (.aload_n 0, 1) := dX0_runBody_r232.2.2.1
theorem dX0_runBody_235 : decode cX0_runBody 235 = .ok (.iload_n 2, 1) := dX0_runBody_r232.2.2.2.1
theorem dX0_runBody_236 : decode cX0_runBody 236 = .ok (.iconst 1, 1) := dX0_runBody_r232.2.2.2.2.1
theorem dX0_runBody_237 : decode cX0_runBody 237 = .ok (.iload_n 3, 1) := dX0_runBody_r232.2.2.2.2.2.1
theorem dX0_runBody_238 : decode cX0_runBody 238 = .ok (.aload_n 0, 1) := dX0_runBody_r232.2.2.2.2.2.2.1
theorem dX0_runBody_239 : decode cX0_runBody 239 = .ok (.getfield 25, 3) := dX0_runBody_r232.2.2.2.2.2.2.2.1
theorem dX0_runBody_242 : decode cX0_runBody 242 = .ok (.isub, 1) := dX0_runBody_r232.2.2.2.2.2.2.2.2.1
theorem dX0_runBody_243 : decode cX0_runBody 243 = .ok (.iload 4, 2) := dX0_runBody_r232.2.2.2.2.2.2.2.2.2.1
theorem dX0_runBody_245 : decode cX0_runBody 245 = .ok (.invokevirtual 39, 3) := dX0_runBody_r232.2.2.2.2.2.2.2.2.2.2.1
theorem dX0_runBody_248 : decode cX0_runBody 248 = .ok (.ireturn, 1) := dX0_runBody_r232.2.2.2.2.2.2.2.2.2.2.2.1
def wp_5 (R : Int32 → Int32 → Int32 → Int32 → zf_Me → (Int32 → zf_Me → Prop) → Prop) (v1 : Int32) (v2 : Int32) (v3 : Int32) (v4 : Int32) (m : zf_Me) (Q : Int32 → zf_Me → Prop) : Prop := ((v1.toInt = 10 → Q (v3 + (m.1 44 3)) m) ∧ (v1.toInt = 11 → R (m.1 44 2) 0 v3 v4 m (fun x1 m2 => Q (x1 * 2) m2)) ∧ (v1.toInt = 12 → R (m.1 44 2) 1 v3 v4 m (fun x3 m4 => R (m4.1 44 2) 0 (v3 - (m4.1 44 4)) v4 m4 (fun x5 m6 => Q (x3 ^^^ x5) m6))) ∧ (v1.toInt = 20 → R v2 0 v3 v4 m (fun x7 m8 => Q (x7 + (m8.1 44 4)) m8)) ∧ (v1.toInt = 30 → R v2 1 v3 v4 m (fun x9 m10 => Q (x9 * 3) m10)) ∧ (v1.toInt = 40 → R v2 1 (v3 + 1) v4 m (fun x11 m12 => Q x11 m12)) ∧ (v1.toInt = 50 → R v2 2 v3 v4 m (fun x13 m14 => Q (-x13) m14)) ∧ (v1.toInt = 51 → R v2 0 v3 v4 m (fun x15 m16 => Q (x15 - (m16.1 44 3)) m16)) ∧ (v1.toInt = 60 → R v2 2 v3 v4 m (fun x17 m18 => Q (x17 ^^^ 5) m18)) ∧ (v1.toInt = 70 → R v2 0 v3 v4 m (fun x19 m20 => Q (x19 * 2) m20)) ∧ ((¬ v1.toInt = 10 ∧ ¬ v1.toInt = 11 ∧ ¬ v1.toInt = 12 ∧ ¬ v1.toInt = 20 ∧ ¬ v1.toInt = 30 ∧ ¬ v1.toInt = 40 ∧ ¬ v1.toInt = 50 ∧ ¬ v1.toInt = 51 ∧ ¬ v1.toInt = 60 ∧ ¬ v1.toInt = 70) → R v2 1 (v3 - (m.1 44 4)) v4 m (fun x21 m22 => Q x21 m22)))
theorem zr_5 {e : Nat} (hd : 0 ≤ e) {R : Int32 → Int32 → Int32 → Int32 → zf_Me → (Int32 → zf_Me → Prop) → Prop} (hR : ∀ (v1 : Int32) (v2 : Int32) (v3 : Int32) (v4 : Int32) (m : zf_Me) (Q : Int32 → zf_Me → Prop), R v1 v2 v3 v4 m Q → zf_M e 4 [.inr (.inr (1, 44)), .inl v1, .inl v2, .inl v3, .inl v4] m (zf_I Q)) {v1 : Int32} {v2 : Int32} {v3 : Int32} {v4 : Int32} {Q : Int32 → zf_Me → Prop} {m : zf_Me} (h : wp_5 R v1 v2 v3 v4 m Q) : zf_M (e + 1) 5 [.inr (.inr (1, 44)), .inl v1, .inl v2, .inl v3, .inl v4] m (zf_I Q) := by
  unfold wp_5 at h
  refine zf_M_of (Nat.le_of_ble_eq_true rfl) zm_5 (L := [some (.inr (.inr (1, 44))), some (.inl v1), some (.inl v2), some (.inl v3), some (.inl v4)]) rfl ?_
  refine zf_ld (pc' := 1) (v := .inl v1) dX0_runBody_0 rfl (fun _ _ _ => rfl) rfl rfl rfl ?_
  by_cases g0 : v1.toInt = 10
  · refine zf_lsw (tg := 92) (o := 91) dX0_runBody_1 rfl (by rw [g0]; rfl) rfl ?_
    replace h := h.1 g0
    refine zf_ld (pc' := 93) (v := .inl v3) dX0_runBody_92 rfl (fun _ _ _ => rfl) rfl rfl rfl ?_
    refine zf_ld (pc' := 94) (v := .inr (.inr (1, 44))) dX0_runBody_93 rfl (fun _ _ _ => rfl) rfl rfl rfl ?_
    refine zf_gfi (pc' := 97) dX0_runBody_94 rfl rfl (by decide) rfl rfl ?_
    refine zf_in (pc' := 98) (S' := [.inl (v3 + (m.1 44 3))]) dX0_runBody_97 rfl (fun _ _ _ => rfl) ?_
    exact zf_ri dX0_runBody_98 rfl h
  by_cases g1 : v1.toInt = 11
  · refine zf_lsw (tg := 99) (o := 98) dX0_runBody_1 rfl (by rw [g1]; rfl) rfl ?_
    replace h := h.2.1 g1
    refine zf_ld (pc' := 100) (v := .inr (.inr (1, 44))) dX0_runBody_99 rfl (fun _ _ _ => rfl) rfl rfl rfl ?_
    refine zf_ld (pc' := 101) (v := .inr (.inr (1, 44))) dX0_runBody_100 rfl (fun _ _ _ => rfl) rfl rfl rfl ?_
    refine zf_gfi (pc' := 104) dX0_runBody_101 rfl rfl (by decide) rfl rfl ?_
    refine zf_ic (v := 0) (pc' := 105) dX0_runBody_104 rfl rfl ?_
    refine zf_ld (pc' := 106) (v := .inl v3) dX0_runBody_105 rfl (fun _ _ _ => rfl) rfl rfl rfl ?_
    refine zf_ld (pc' := 108) (v := .inl v4) dX0_runBody_106 rfl (fun _ _ _ => rfl) rfl rfl rfl ?_
    refine zf_iv (k := 4) (pc' := 111) (r := []) dX0_runBody_108 rfl rfl rfl rfl (by decide) rfl rfl rfl (hR _ _ _ _ _ _ h) (zf_kI (fun x1 m2 h => ?_))
    refine zf_ic (v := 2) (pc' := 112) dX0_runBody_111 rfl rfl ?_
    refine zf_in (pc' := 113) (S' := [.inl (x1 * 2)]) dX0_runBody_112 rfl (fun _ _ _ => rfl) ?_
    exact zf_ri dX0_runBody_113 rfl h
  by_cases g2 : v1.toInt = 12
  · refine zf_lsw (tg := 114) (o := 113) dX0_runBody_1 rfl (by rw [g2]; rfl) rfl ?_
    replace h := h.2.2.1 g2
    refine zf_ld (pc' := 115) (v := .inr (.inr (1, 44))) dX0_runBody_114 rfl (fun _ _ _ => rfl) rfl rfl rfl ?_
    refine zf_ld (pc' := 116) (v := .inr (.inr (1, 44))) dX0_runBody_115 rfl (fun _ _ _ => rfl) rfl rfl rfl ?_
    refine zf_gfi (pc' := 119) dX0_runBody_116 rfl rfl (by decide) rfl rfl ?_
    refine zf_ic (v := 1) (pc' := 120) dX0_runBody_119 rfl rfl ?_
    refine zf_ld (pc' := 121) (v := .inl v3) dX0_runBody_120 rfl (fun _ _ _ => rfl) rfl rfl rfl ?_
    refine zf_ld (pc' := 123) (v := .inl v4) dX0_runBody_121 rfl (fun _ _ _ => rfl) rfl rfl rfl ?_
    refine zf_iv (k := 4) (pc' := 126) (r := []) dX0_runBody_123 rfl rfl rfl rfl (by decide) rfl rfl rfl (hR _ _ _ _ _ _ h) (zf_kI (fun x3 m4 h => ?_))
    refine zf_ld (pc' := 127) (v := .inr (.inr (1, 44))) dX0_runBody_126 rfl (fun _ _ _ => rfl) rfl rfl rfl ?_
    refine zf_ld (pc' := 128) (v := .inr (.inr (1, 44))) dX0_runBody_127 rfl (fun _ _ _ => rfl) rfl rfl rfl ?_
    refine zf_gfi (pc' := 131) dX0_runBody_128 rfl rfl (by decide) rfl rfl ?_
    refine zf_ic (v := 0) (pc' := 132) dX0_runBody_131 rfl rfl ?_
    refine zf_ld (pc' := 133) (v := .inl v3) dX0_runBody_132 rfl (fun _ _ _ => rfl) rfl rfl rfl ?_
    refine zf_ld (pc' := 134) (v := .inr (.inr (1, 44))) dX0_runBody_133 rfl (fun _ _ _ => rfl) rfl rfl rfl ?_
    refine zf_gfi (pc' := 137) dX0_runBody_134 rfl rfl (by decide) rfl rfl ?_
    refine zf_in (pc' := 138) (S' := [.inl (v3 - (m4.1 44 4)), .inl 0, .inl (m4.1 44 2), .inr (.inr (1, 44)), .inl x3]) dX0_runBody_137 rfl (fun _ _ _ => rfl) ?_
    refine zf_ld (pc' := 140) (v := .inl v4) dX0_runBody_138 rfl (fun _ _ _ => rfl) rfl rfl rfl ?_
    refine zf_iv (k := 4) (pc' := 143) (r := [.inl x3]) dX0_runBody_140 rfl rfl rfl rfl (by decide) rfl rfl rfl (hR _ _ _ _ _ _ h) (zf_kI (fun x5 m6 h => ?_))
    refine zf_in (pc' := 144) (S' := [.inl (x3 ^^^ x5)]) dX0_runBody_143 rfl (fun _ _ _ => rfl) ?_
    exact zf_ri dX0_runBody_144 rfl h
  by_cases g3 : v1.toInt = 20
  · refine zf_lsw (tg := 145) (o := 144) dX0_runBody_1 rfl (by rw [g3]; rfl) rfl ?_
    replace h := h.2.2.2.1 g3
    refine zf_ld (pc' := 146) (v := .inr (.inr (1, 44))) dX0_runBody_145 rfl (fun _ _ _ => rfl) rfl rfl rfl ?_
    refine zf_ld (pc' := 147) (v := .inl v2) dX0_runBody_146 rfl (fun _ _ _ => rfl) rfl rfl rfl ?_
    refine zf_ic (v := 0) (pc' := 148) dX0_runBody_147 rfl rfl ?_
    refine zf_ld (pc' := 149) (v := .inl v3) dX0_runBody_148 rfl (fun _ _ _ => rfl) rfl rfl rfl ?_
    refine zf_ld (pc' := 151) (v := .inl v4) dX0_runBody_149 rfl (fun _ _ _ => rfl) rfl rfl rfl ?_
    refine zf_iv (k := 4) (pc' := 154) (r := []) dX0_runBody_151 rfl rfl rfl rfl (by decide) rfl rfl rfl (hR _ _ _ _ _ _ h) (zf_kI (fun x7 m8 h => ?_))
    refine zf_ld (pc' := 155) (v := .inr (.inr (1, 44))) dX0_runBody_154 rfl (fun _ _ _ => rfl) rfl rfl rfl ?_
    refine zf_gfi (pc' := 158) dX0_runBody_155 rfl rfl (by decide) rfl rfl ?_
    refine zf_in (pc' := 159) (S' := [.inl (x7 + (m8.1 44 4))]) dX0_runBody_158 rfl (fun _ _ _ => rfl) ?_
    exact zf_ri dX0_runBody_159 rfl h
  by_cases g4 : v1.toInt = 30
  · refine zf_lsw (tg := 160) (o := 159) dX0_runBody_1 rfl (by rw [g4]; rfl) rfl ?_
    replace h := h.2.2.2.2.1 g4
    refine zf_ld (pc' := 161) (v := .inr (.inr (1, 44))) dX0_runBody_160 rfl (fun _ _ _ => rfl) rfl rfl rfl ?_
    refine zf_ld (pc' := 162) (v := .inl v2) dX0_runBody_161 rfl (fun _ _ _ => rfl) rfl rfl rfl ?_
    refine zf_ic (v := 1) (pc' := 163) dX0_runBody_162 rfl rfl ?_
    refine zf_ld (pc' := 164) (v := .inl v3) dX0_runBody_163 rfl (fun _ _ _ => rfl) rfl rfl rfl ?_
    refine zf_ld (pc' := 166) (v := .inl v4) dX0_runBody_164 rfl (fun _ _ _ => rfl) rfl rfl rfl ?_
    refine zf_iv (k := 4) (pc' := 169) (r := []) dX0_runBody_166 rfl rfl rfl rfl (by decide) rfl rfl rfl (hR _ _ _ _ _ _ h) (zf_kI (fun x9 m10 h => ?_))
    refine zf_ic (v := 3) (pc' := 170) dX0_runBody_169 rfl rfl ?_
    refine zf_in (pc' := 171) (S' := [.inl (x9 * 3)]) dX0_runBody_170 rfl (fun _ _ _ => rfl) ?_
    exact zf_ri dX0_runBody_171 rfl h
  by_cases g5 : v1.toInt = 40
  · refine zf_lsw (tg := 172) (o := 171) dX0_runBody_1 rfl (by rw [g5]; rfl) rfl ?_
    replace h := h.2.2.2.2.2.1 g5
    refine zf_ld (pc' := 173) (v := .inr (.inr (1, 44))) dX0_runBody_172 rfl (fun _ _ _ => rfl) rfl rfl rfl ?_
    refine zf_ld (pc' := 174) (v := .inl v2) dX0_runBody_173 rfl (fun _ _ _ => rfl) rfl rfl rfl ?_
    refine zf_ic (v := 1) (pc' := 175) dX0_runBody_174 rfl rfl ?_
    refine zf_ld (pc' := 176) (v := .inl v3) dX0_runBody_175 rfl (fun _ _ _ => rfl) rfl rfl rfl ?_
    refine zf_ic (v := 1) (pc' := 177) dX0_runBody_176 rfl rfl ?_
    refine zf_in (pc' := 178) (S' := [.inl (v3 + 1), .inl 1, .inl v2, .inr (.inr (1, 44))]) dX0_runBody_177 rfl (fun _ _ _ => rfl) ?_
    refine zf_ld (pc' := 180) (v := .inl v4) dX0_runBody_178 rfl (fun _ _ _ => rfl) rfl rfl rfl ?_
    refine zf_iv (k := 4) (pc' := 183) (r := []) dX0_runBody_180 rfl rfl rfl rfl (by decide) rfl rfl rfl (hR _ _ _ _ _ _ h) (zf_kI (fun x11 m12 h => ?_))
    exact zf_ri dX0_runBody_183 rfl h
  by_cases g6 : v1.toInt = 50
  · refine zf_lsw (tg := 184) (o := 183) dX0_runBody_1 rfl (by rw [g6]; rfl) rfl ?_
    replace h := h.2.2.2.2.2.2.1 g6
    refine zf_ld (pc' := 185) (v := .inr (.inr (1, 44))) dX0_runBody_184 rfl (fun _ _ _ => rfl) rfl rfl rfl ?_
    refine zf_ld (pc' := 186) (v := .inl v2) dX0_runBody_185 rfl (fun _ _ _ => rfl) rfl rfl rfl ?_
    refine zf_ic (v := 2) (pc' := 187) dX0_runBody_186 rfl rfl ?_
    refine zf_ld (pc' := 188) (v := .inl v3) dX0_runBody_187 rfl (fun _ _ _ => rfl) rfl rfl rfl ?_
    refine zf_ld (pc' := 190) (v := .inl v4) dX0_runBody_188 rfl (fun _ _ _ => rfl) rfl rfl rfl ?_
    refine zf_iv (k := 4) (pc' := 193) (r := []) dX0_runBody_190 rfl rfl rfl rfl (by decide) rfl rfl rfl (hR _ _ _ _ _ _ h) (zf_kI (fun x13 m14 h => ?_))
    refine zf_in (pc' := 194) (S' := [.inl (-x13)]) dX0_runBody_193 rfl (fun _ _ _ => rfl) ?_
    exact zf_ri dX0_runBody_194 rfl h
  by_cases g7 : v1.toInt = 51
  · refine zf_lsw (tg := 195) (o := 194) dX0_runBody_1 rfl (by rw [g7]; rfl) rfl ?_
    replace h := h.2.2.2.2.2.2.2.1 g7
    refine zf_ld (pc' := 196) (v := .inr (.inr (1, 44))) dX0_runBody_195 rfl (fun _ _ _ => rfl) rfl rfl rfl ?_
    refine zf_ld (pc' := 197) (v := .inl v2) dX0_runBody_196 rfl (fun _ _ _ => rfl) rfl rfl rfl ?_
    refine zf_ic (v := 0) (pc' := 198) dX0_runBody_197 rfl rfl ?_
    refine zf_ld (pc' := 199) (v := .inl v3) dX0_runBody_198 rfl (fun _ _ _ => rfl) rfl rfl rfl ?_
    refine zf_ld (pc' := 201) (v := .inl v4) dX0_runBody_199 rfl (fun _ _ _ => rfl) rfl rfl rfl ?_
    refine zf_iv (k := 4) (pc' := 204) (r := []) dX0_runBody_201 rfl rfl rfl rfl (by decide) rfl rfl rfl (hR _ _ _ _ _ _ h) (zf_kI (fun x15 m16 h => ?_))
    refine zf_ld (pc' := 205) (v := .inr (.inr (1, 44))) dX0_runBody_204 rfl (fun _ _ _ => rfl) rfl rfl rfl ?_
    refine zf_gfi (pc' := 208) dX0_runBody_205 rfl rfl (by decide) rfl rfl ?_
    refine zf_in (pc' := 209) (S' := [.inl (x15 - (m16.1 44 3))]) dX0_runBody_208 rfl (fun _ _ _ => rfl) ?_
    exact zf_ri dX0_runBody_209 rfl h
  by_cases g8 : v1.toInt = 60
  · refine zf_lsw (tg := 210) (o := 209) dX0_runBody_1 rfl (by rw [g8]; rfl) rfl ?_
    replace h := h.2.2.2.2.2.2.2.2.1 g8
    refine zf_ld (pc' := 211) (v := .inr (.inr (1, 44))) dX0_runBody_210 rfl (fun _ _ _ => rfl) rfl rfl rfl ?_
    refine zf_ld (pc' := 212) (v := .inl v2) dX0_runBody_211 rfl (fun _ _ _ => rfl) rfl rfl rfl ?_
    refine zf_ic (v := 2) (pc' := 213) dX0_runBody_212 rfl rfl ?_
    refine zf_ld (pc' := 214) (v := .inl v3) dX0_runBody_213 rfl (fun _ _ _ => rfl) rfl rfl rfl ?_
    refine zf_ld (pc' := 216) (v := .inl v4) dX0_runBody_214 rfl (fun _ _ _ => rfl) rfl rfl rfl ?_
    refine zf_iv (k := 4) (pc' := 219) (r := []) dX0_runBody_216 rfl rfl rfl rfl (by decide) rfl rfl rfl (hR _ _ _ _ _ _ h) (zf_kI (fun x17 m18 h => ?_))
    refine zf_ic (v := 5) (pc' := 220) dX0_runBody_219 rfl rfl ?_
    refine zf_in (pc' := 221) (S' := [.inl (x17 ^^^ 5)]) dX0_runBody_220 rfl (fun _ _ _ => rfl) ?_
    exact zf_ri dX0_runBody_221 rfl h
  by_cases g9 : v1.toInt = 70
  · refine zf_lsw (tg := 222) (o := 221) dX0_runBody_1 rfl (by rw [g9]; rfl) rfl ?_
    replace h := h.2.2.2.2.2.2.2.2.2.1 g9
    refine zf_ld (pc' := 223) (v := .inr (.inr (1, 44))) dX0_runBody_222 rfl (fun _ _ _ => rfl) rfl rfl rfl ?_
    refine zf_ld (pc' := 224) (v := .inl v2) dX0_runBody_223 rfl (fun _ _ _ => rfl) rfl rfl rfl ?_
    refine zf_ic (v := 0) (pc' := 225) dX0_runBody_224 rfl rfl ?_
    refine zf_ld (pc' := 226) (v := .inl v3) dX0_runBody_225 rfl (fun _ _ _ => rfl) rfl rfl rfl ?_
    refine zf_ld (pc' := 228) (v := .inl v4) dX0_runBody_226 rfl (fun _ _ _ => rfl) rfl rfl rfl ?_
    refine zf_iv (k := 4) (pc' := 231) (r := []) dX0_runBody_228 rfl rfl rfl rfl (by decide) rfl rfl rfl (hR _ _ _ _ _ _ h) (zf_kI (fun x19 m20 h => ?_))
    refine zf_ic (v := 2) (pc' := 232) dX0_runBody_231 rfl rfl ?_
    refine zf_in (pc' := 233) (S' := [.inl (x19 * 2)]) dX0_runBody_232 rfl (fun _ _ _ => rfl) ?_
    exact zf_ri dX0_runBody_233 rfl h
  refine zf_lsw (tg := 234) (o := 233) dX0_runBody_1 rfl (by simp only [Op.lookupswitch.offset]; rw [if_neg (fun z => g0 z.symm)]; rw [if_neg (fun z => g1 z.symm)]; rw [if_neg (fun z => g2 z.symm)]; rw [if_neg (fun z => g3 z.symm)]; rw [if_neg (fun z => g4 z.symm)]; rw [if_neg (fun z => g5 z.symm)]; rw [if_neg (fun z => g6 z.symm)]; rw [if_neg (fun z => g7 z.symm)]; rw [if_neg (fun z => g8 z.symm)]; rw [if_neg (fun z => g9 z.symm)]) rfl ?_
  replace h := h.2.2.2.2.2.2.2.2.2.2 ⟨g0, g1, g2, g3, g4, g5, g6, g7, g8, g9⟩
  refine zf_ld (pc' := 235) (v := .inr (.inr (1, 44))) dX0_runBody_234 rfl (fun _ _ _ => rfl) rfl rfl rfl ?_
  refine zf_ld (pc' := 236) (v := .inl v2) dX0_runBody_235 rfl (fun _ _ _ => rfl) rfl rfl rfl ?_
  refine zf_ic (v := 1) (pc' := 237) dX0_runBody_236 rfl rfl ?_
  refine zf_ld (pc' := 238) (v := .inl v3) dX0_runBody_237 rfl (fun _ _ _ => rfl) rfl rfl rfl ?_
  refine zf_ld (pc' := 239) (v := .inr (.inr (1, 44))) dX0_runBody_238 rfl (fun _ _ _ => rfl) rfl rfl rfl ?_
  refine zf_gfi (pc' := 242) dX0_runBody_239 rfl rfl (by decide) rfl rfl ?_
  refine zf_in (pc' := 243) (S' := [.inl (v3 - (m.1 44 4)), .inl 1, .inl v2, .inr (.inr (1, 44))]) dX0_runBody_242 rfl (fun _ _ _ => rfl) ?_
  refine zf_ld (pc' := 245) (v := .inl v4) dX0_runBody_243 rfl (fun _ _ _ => rfl) rfl rfl rfl ?_
  refine zf_iv (k := 4) (pc' := 248) (r := []) dX0_runBody_245 rfl rfl rfl rfl (by decide) rfl rfl rfl (hR _ _ _ _ _ _ h) (zf_kI (fun x21 m22 h => ?_))
  exact zf_ri dX0_runBody_248 rfl h
def zt_4 : zx_MT := (0, yX0_from, cX0_from, 7, (some FieldType.int), 4, 0)
theorem zm_4 : zx_m 4 = zt_4 := rfl
theorem dX0_from_r0 : zdcP cX0_from 0 [(.iload_n 1, 1), (.istore 5, 2), (.iconst 0, 1), (.istore 6, 2), (.iload 6, 2), (.bipush 7, 2), (.if_icmp .ge 38, 3), (.iload 5, 2), (.invokestatic 43, 3), (.ifCond .eq 30, 3), (.getstatic 47, 3), (.iload 5, 2), (.iconst 3, 1), (.imul, 1), (.iload_n 2, 1), (.iadd, 1)] := zdcA_ok (by decide +kernel)
theorem dX0_from_0 : decode cX0_from 0 = .ok (.iload_n 1, 1) := dX0_from_r0.1
theorem dX0_from_1 : decode cX0_from 1 = .ok (.istore 5, 2) := dX0_from_r0.2.1
theorem dX0_from_3 : decode cX0_from 3 = .ok (.iconst 0, 1) := dX0_from_r0.2.2.1
theorem dX0_from_4 : decode cX0_from 4 = .ok (.istore 6, 2) := dX0_from_r0.2.2.2.1
theorem dX0_from_6 : decode cX0_from 6 = .ok (.iload 6, 2) := dX0_from_r0.2.2.2.2.1
theorem dX0_from_8 : decode cX0_from 8 = .ok (.bipush 7, 2) := dX0_from_r0.2.2.2.2.2.1
theorem dX0_from_10 : decode cX0_from 10 = .ok (.if_icmp .ge 38, 3) := dX0_from_r0.2.2.2.2.2.2.1
theorem dX0_from_13 : decode cX0_from 13 = .ok (.iload 5, 2) := dX0_from_r0.2.2.2.2.2.2.2.1
theorem dX0_from_15 : decode cX0_from 15 = .ok (.invokestatic 43, 3) := dX0_from_r0.2.2.2.2.2.2.2.2.1
theorem dX0_from_18 : decode cX0_from 18 = .ok (.ifCond .eq 30, 3) := dX0_from_r0.2.2.2.2.2.2.2.2.2.1
theorem dX0_from_21 : decode cX0_from 21 = .ok (.getstatic 47, 3) := dX0_from_r0.2.2.2.2.2.2.2.2.2.2.1
theorem dX0_from_24 : decode cX0_from 24 = .ok (.iload 5, 2) := dX0_from_r0.2.2.2.2.2.2.2.2.2.2.2.1
theorem dX0_from_26 : decode cX0_from 26 = .ok (.iconst 3, 1) := dX0_from_r0.2.2.2.2.2.2.2.2.2.2.2.2.1
theorem dX0_from_27 : decode cX0_from 27 = .ok (.imul, 1) := dX0_from_r0.2.2.2.2.2.2.2.2.2.2.2.2.2.1
theorem dX0_from_28 : decode cX0_from 28 = .ok (.iload_n 2, 1) := dX0_from_r0.2.2.2.2.2.2.2.2.2.2.2.2.2.2.1
theorem dX0_from_29 : decode cX0_from 29 = .ok (.iadd, 1) := dX0_from_r0.2.2.2.2.2.2.2.2.2.2.2.2.2.2.2.1
theorem dX0_from_r30 : zdcP cX0_from 30 [(.iaload, 1), (.ifCond .ne 17, 3), (.getstatic 50, 3), (.iload 5, 2), (.iaload, 1), (.istore 5, 2), (.iinc 6 1, 3), (.goto (-39), 3), (.iload 5, 2), (.invokestatic 43, 3), (.ifCond .eq 10, 3), (.iload 4, 2), (.bipush 40, 2), (.if_icmp .le 5, 3), (.iconst 0, 1), (.ireturn, 1)] := zdcA_ok (by decide +kernel)
theorem dX0_from_30 : decode cX0_from 30 = .ok (.iaload, 1) := dX0_from_r30.1
theorem dX0_from_31 : decode cX0_from 31 = .ok (.ifCond .ne 17, 3) := dX0_from_r30.2.1
theorem dX0_from_34 : decode cX0_from 34 = .ok (.getstatic 50, 3) := dX0_from_r30.2.2.1
theorem dX0_from_37 : decode cX0_from 37 = .ok (.iload 5, 2) := dX0_from_r30.2.2.2.1
theorem dX0_from_39 : decode cX0_from 39 = .ok (.iaload, 1) := dX0_from_r30.2.2.2.2.1
theorem dX0_from_40 : decode cX0_from 40 = .ok (.istore 5, 2) := dX0_from_r30.2.2.2.2.2.1
theorem dX0_from_42 : decode cX0_from 42 = .ok (.iinc 6 1, 3) := dX0_from_r30.2.2.2.2.2.2.1
theorem dX0_from_45 : decode cX0_from 45 = .ok (.goto (-39), 3) := dX0_from_r30.2.2.2.2.2.2.2.1
theorem dX0_from_48 : decode cX0_from 48 = .ok (.iload 5, 2) := dX0_from_r30.2.2.2.2.2.2.2.2.1
theorem dX0_from_50 : decode cX0_from 50 = .ok (.invokestatic 43, 3) := dX0_from_r30.2.2.2.2.2.2.2.2.2.1
theorem dX0_from_53 : decode cX0_from 53 = .ok (.ifCond .eq 10, 3) := dX0_from_r30.2.2.2.2.2.2.2.2.2.2.1
theorem dX0_from_56 : decode cX0_from 56 = .ok (.iload 4, 2) := dX0_from_r30.2.2.2.2.2.2.2.2.2.2.2.1
theorem dX0_from_58 : decode cX0_from 58 = .ok (.bipush 40, 2) := dX0_from_r30.2.2.2.2.2.2.2.2.2.2.2.2.1
theorem dX0_from_60 : decode cX0_from 60 = .ok (.if_icmp .le 5, 3) := dX0_from_r30.2.2.2.2.2.2.2.2.2.2.2.2.2.1
theorem dX0_from_63 : decode cX0_from 63 = .ok (.iconst 0, 1) := dX0_from_r30.2.2.2.2.2.2.2.2.2.2.2.2.2.2.1
theorem dX0_from_64 : decode cX0_from 64 = .ok (.ireturn, 1) := dX0_from_r30.2.2.2.2.2.2.2.2.2.2.2.2.2.2.2.1
theorem dX0_from_r65 : zdcP cX0_from 65 [(.getstatic 47, 3), (.iload 5, 2), (.iconst 3, 1), (.imul, 1), (.iload_n 2, 1), (.iadd, 1), (.iaload, 1), (.istore 6, 2), (.aload_n 0, 1), (.getfield 15, 3), (.bipush 20, 2), (.if_icmp .ge 14, 3), (.aload_n 0, 1), (.getfield 11, 3), (.aload_n 0, 1), (.getfield 15, 3)] := zdcA_ok (by decide +kernel)
theorem dX0_from_65 : decode cX0_from 65 = .ok (.getstatic 47, 3) := dX0_from_r65.1
theorem dX0_from_68 : decode cX0_from 68 = .ok (.iload 5, 2) := dX0_from_r65.2.1
theorem dX0_from_70 : decode cX0_from 70 = .ok (.iconst 3, 1) := dX0_from_r65.2.2.1
theorem dX0_from_71 : decode cX0_from 71 = .ok (.imul, 1) := dX0_from_r65.2.2.2.1
theorem dX0_from_72 : decode cX0_from 72 = .ok (.iload_n 2, 1) := dX0_from_r65.2.2.2.2.1
theorem dX0_from_73 : decode cX0_from 73 = .ok (.iadd, 1) := dX0_from_r65.2.2.2.2.2.1
theorem dX0_from_74 : decode cX0_from 74 = .ok (.iaload, 1) := dX0_from_r65.2.2.2.2.2.2.1
theorem dX0_from_75 : decode cX0_from 75 = .ok (.istore 6, 2) := dX0_from_r65.2.2.2.2.2.2.2.1
theorem dX0_from_77 : decode cX0_from 77 = .ok (.aload_n 0, 1) := dX0_from_r65.2.2.2.2.2.2.2.2.1
theorem dX0_from_78 : decode cX0_from 78 = .ok (.getfield 15, 3) := dX0_from_r65.2.2.2.2.2.2.2.2.2.1
theorem dX0_from_81 : decode cX0_from 81 = .ok (.bipush 20, 2) := dX0_from_r65.2.2.2.2.2.2.2.2.2.2.1
theorem dX0_from_83 : decode cX0_from 83 = .ok (.if_icmp .ge 14, 3) := dX0_from_r65.2.2.2.2.2.2.2.2.2.2.2.1
theorem dX0_from_86 : decode cX0_from 86 = .ok (.aload_n 0, 1) := dX0_from_r65.2.2.2.2.2.2.2.2.2.2.2.2.1
theorem dX0_from_87 : decode cX0_from 87 = .ok (.getfield 11, 3) := dX0_from_r65.2.2.2.2.2.2.2.2.2.2.2.2.2.1
theorem dX0_from_90 : decode cX0_from 90 = .ok (.aload_n 0, 1) := dX0_from_r65.2.2.2.2.2.2.2.2.2.2.2.2.2.2.1
theorem dX0_from_91 : decode cX0_from 91 = .ok (.getfield 15, 3) := dX0_from_r65.2.2.2.2.2.2.2.2.2.2.2.2.2.2.2.1
theorem dX0_from_r94 : zdcP cX0_from 94 [(.iload 6, 2), (.iastore, 1), (.aload_n 0, 1), (.dup, 1), (.getfield 15, 3), (.iconst 1, 1), (.iadd, 1), (.putfield 15, 3), (.aload_n 0, 1), (.iload 6, 2), (.getstatic 50, 3), (.iload 5, 2), (.iaload, 1), (.iload_n 3, 1), (.iload 4, 2), (.iconst 1, 1)] := zdcA_ok (by decide +kernel)
theorem dX0_from_94 : decode cX0_from 94 = .ok (.iload 6, 2) := dX0_from_r94.1
theorem dX0_from_96 : decode cX0_from 96 = .ok (.iastore, 1) := dX0_from_r94.2.1
theorem dX0_from_97 : decode cX0_from 97 = .ok (.aload_n 0, 1) := dX0_from_r94.2.2.1
theorem dX0_from_98 : decode cX0_from 98 = .ok (.dup, 1) := dX0_from_r94.2.2.2.1
theorem dX0_from_99 : decode cX0_from 99 = .ok (.getfield 15, 3) := dX0_from_r94.2.2.2.2.1
theorem dX0_from_102 : decode cX0_from 102 = .ok (.iconst 1, 1) := dX0_from_r94.2.2.2.2.2.1
theorem dX0_from_103 : decode cX0_from 103 = .ok (.iadd, 1) := dX0_from_r94.2.2.2.2.2.2.1
theorem dX0_from_104 : decode cX0_from 104 = .ok (.putfield 15, 3) := dX0_from_r94.2.2.2.2.2.2.2.1
theorem dX0_from_107 : decode cX0_from 107 = .ok (.aload_n 0, 1) := dX0_from_r94.2.2.2.2.2.2.2.2.1
theorem dX0_from_108 : decode cX0_from 108 = .ok (.iload 6, 2) := dX0_from_r94.2.2.2.2.2.2.2.2.2.1
theorem dX0_from_110 : decode cX0_from 110 = .ok (.getstatic 50, 3) := dX0_from_r94.2.2.2.2.2.2.2.2.2.2.1
theorem dX0_from_113 : decode cX0_from 113 = .ok (.iload 5, 2) := dX0_from_r94.2.2.2.2.2.2.2.2.2.2.2.1
theorem dX0_from_115 : decode cX0_from 115 = .ok (.iaload, 1) := dX0_from_r94.2.2.2.2.2.2.2.2.2.2.2.2.1
theorem dX0_from_116 : decode cX0_from 116 = .ok (.iload_n 3, 1) := dX0_from_r94.2.2.2.2.2.2.2.2.2.2.2.2.2.1
theorem dX0_from_117 : decode cX0_from 117 = .ok (.iload 4, 2) := dX0_from_r94.2.2.2.2.2.2.2.2.2.2.2.2.2.2.1
theorem dX0_from_119 : decode cX0_from 119 = .ok (.iconst 1, 1) := dX0_from_r94.2.2.2.2.2.2.2.2.2.2.2.2.2.2.2.1
theorem dX0_from_r120 : zdcP cX0_from 120 [(.iadd, 1), (.invokevirtual 53, 3), (.ireturn, 1)] := zdcA_ok (by decide +kernel)
theorem dX0_from_120 : decode cX0_from 120 = .ok (.iadd, 1) := dX0_from_r120.1
theorem dX0_from_121 : decode cX0_from 121 = .ok (.invokevirtual 53, 3) := dX0_from_r120.2.1
theorem dX0_from_124 : decode cX0_from 124 = .ok (.ireturn, 1) := dX0_from_r120.2.2.1
def wq_4_97 (R : Int32 → Int32 → Int32 → Int32 → zf_Me → (Int32 → zf_Me → Prop) → Prop) (v1 : Int32) (v2 : Int32) (v3 : Int32) (v4 : Int32) (v5 : Int32) (v6 : Int32) (m : zf_Me) (Q : Int32 → zf_Me → Prop) : Prop := (∀ m3, m3 = zf_u m 44 1 ((m.1 44 1) + 1) → ((0 ≤ (v5).toInt ∧ (v5).toInt < 7) ∧ wp_5 R v6 ((zx_sa.getD 0 []).getD (Int32.toInt v5).toNat 0) v3 (v4 + 1) m3 (fun x5 m6 => Q x5 m6)))
theorem zq_4_97 {e : Nat} (hd : 0 ≤ e) {R : Int32 → Int32 → Int32 → Int32 → zf_Me → (Int32 → zf_Me → Prop) → Prop} (hR : ∀ (v1 : Int32) (v2 : Int32) (v3 : Int32) (v4 : Int32) (m : zf_Me) (Q : Int32 → zf_Me → Prop), R v1 v2 v3 v4 m Q → zf_M e 4 [.inr (.inr (1, 44)), .inl v1, .inl v2, .inl v3, .inl v4] m (zf_I Q)) {v1 : Int32} {v2 : Int32} {v3 : Int32} {v4 : Int32} {Q : Int32 → zf_Me → Prop} {v5 : Int32} {v6 : Int32} {m : zf_Me} (h : wq_4_97 R v1 v2 v3 v4 v5 v6 m Q) : zf_W none 0 0 (e + 2) zt_4 97 [some (.inr (.inr (1, 44))), none, none, some (.inl v3), some (.inl v4), some (.inl v5), some (.inl v6)] [] m (zf_I Q) := by
  unfold wq_4_97 at h
  refine zf_ld (pc' := 98) (v := .inr (.inr (1, 44))) dX0_from_97 rfl (fun _ _ _ => rfl) rfl rfl rfl ?_
  refine zf_in (pc' := 99) (S' := [.inr (.inr (1, 44)), .inr (.inr (1, 44))]) dX0_from_98 rfl (fun _ _ _ => rfl) ?_
  refine zf_gfi (pc' := 102) dX0_from_99 rfl rfl (by decide) rfl rfl ?_
  refine zf_ic (v := 1) (pc' := 103) dX0_from_102 rfl rfl ?_
  refine zf_in (pc' := 104) (S' := [.inl ((m.1 44 1) + 1), .inr (.inr (1, 44))]) dX0_from_103 rfl (fun _ _ _ => rfl) ?_
  refine zf_pf (pc' := 107) dX0_from_104 rfl rfl (by decide) rfl rfl rfl (fun m3 e4 => ?_)
  replace h := h m3 e4
  refine zf_ld (pc' := 108) (v := .inr (.inr (1, 44))) dX0_from_107 rfl (fun _ _ _ => rfl) rfl rfl rfl ?_
  refine zf_ld (pc' := 110) (v := .inl v6) dX0_from_108 rfl (fun _ _ _ => rfl) rfl rfl rfl ?_
  refine zf_gs (g := 0) (pc' := 113) dX0_from_110 rfl rfl rfl ?_
  refine zf_ld (pc' := 115) (v := .inl v5) dX0_from_113 rfl (fun _ _ _ => rfl) rfl rfl rfl ?_
  refine zf_ials (pc' := 116) dX0_from_115 rfl (by decide) (n := 7) rfl h.1 ?_
  replace h := h.2
  refine zf_ld (pc' := 117) (v := .inl v3) dX0_from_116 rfl (fun _ _ _ => rfl) rfl rfl rfl ?_
  refine zf_ld (pc' := 119) (v := .inl v4) dX0_from_117 rfl (fun _ _ _ => rfl) rfl rfl rfl ?_
  refine zf_ic (v := 1) (pc' := 120) dX0_from_119 rfl rfl ?_
  refine zf_in (pc' := 121) (S' := [.inl (v4 + 1), .inl v3, .inl ((zx_sa.getD 0 []).getD (Int32.toInt v5).toNat 0), .inl v6, .inr (.inr (1, 44))]) dX0_from_120 rfl (fun _ _ _ => rfl) ?_
  refine zf_iv (k := 5) (pc' := 124) (r := []) dX0_from_121 rfl rfl rfl rfl (by decide) rfl rfl rfl (zr_5 (by omega) hR h) (zf_kI (fun x5 m6 h => ?_))
  exact zf_ri dX0_from_124 rfl h
def wq_4_48 (R : Int32 → Int32 → Int32 → Int32 → zf_Me → (Int32 → zf_Me → Prop) → Prop) (v1 : Int32) (v2 : Int32) (v3 : Int32) (v4 : Int32) (v5 : Int32) (m : zf_Me) (Q : Int32 → zf_Me → Prop) : Prop := wp_115 v5 m (fun b1 m2 => ((b1 = false → Q 0 m2) ∧ (b1 = true → ((v4.toInt ≤ 40 → ((0 ≤ (((v5 * 3) + v2)).toInt ∧ (((v5 * 3) + v2)).toInt < 21) ∧ ((((m2.1 44 1)).toInt ≥ 20 → wq_4_97 R v1 v2 v3 v4 v5 ((zx_sa.getD 4 []).getD (Int32.toInt ((v5 * 3) + v2)).toNat 0) m2 Q) ∧ (((m2.1 44 1)).toInt < 20 → ((0 ≤ (Int32.toInt (m2.1 44 1)) ∧ (Int32.toInt (m2.1 44 1)) < (20 : Int)) ∧ ∀ m7, m7 = zf_u m2 45 (Int32.toInt (m2.1 44 1)).toNat ((zx_sa.getD 4 []).getD (Int32.toInt ((v5 * 3) + v2)).toNat 0) → wq_4_97 R v1 v2 v3 v4 v5 ((zx_sa.getD 4 []).getD (Int32.toInt ((v5 * 3) + v2)).toNat 0) m7 Q))))) ∧ (v4.toInt > 40 → Q 0 m2)))))
theorem zq_4_48 {e : Nat} (hd : 0 ≤ e) {R : Int32 → Int32 → Int32 → Int32 → zf_Me → (Int32 → zf_Me → Prop) → Prop} (hR : ∀ (v1 : Int32) (v2 : Int32) (v3 : Int32) (v4 : Int32) (m : zf_Me) (Q : Int32 → zf_Me → Prop), R v1 v2 v3 v4 m Q → zf_M e 4 [.inr (.inr (1, 44)), .inl v1, .inl v2, .inl v3, .inl v4] m (zf_I Q)) {v1 : Int32} {v2 : Int32} {v3 : Int32} {v4 : Int32} {Q : Int32 → zf_Me → Prop} {v5 : Int32} {m : zf_Me} (h : wq_4_48 R v1 v2 v3 v4 v5 m Q) : zf_W none 0 0 (e + 2) zt_4 48 [some (.inr (.inr (1, 44))), none, some (.inl v2), some (.inl v3), some (.inl v4), some (.inl v5), none] [] m (zf_I Q) := by
  unfold wq_4_48 at h
  refine zf_ld (pc' := 50) (v := .inl v5) dX0_from_48 rfl (fun _ _ _ => rfl) rfl rfl rfl ?_
  refine zf_is (k := 115) (pc' := 53) (r := []) dX0_from_50 rfl rfl rfl rfl rfl (zr_115 (by omega) h) (zf_kB (fun b1 m2 h => ?_))
  refine zf_ib_eq (tgt := 63) (pc' := 56) dX0_from_53 rfl rfl (fun g => ?_) (fun g => ?_)
  · replace h := h.1 g
    refine zf_ic (v := 0) (pc' := 64) dX0_from_63 rfl rfl ?_
    exact zf_ri dX0_from_64 rfl h
  · replace h := h.2 g
    refine zf_ld (pc' := 58) (v := .inl v4) dX0_from_56 rfl (fun _ _ _ => rfl) rfl rfl rfl ?_
    refine zf_bi (v := 40) (pc' := 60) dX0_from_58 rfl rfl ?_
    refine zf_icmp_le (tgt := 65) (pc' := 63) dX0_from_60 rfl rfl (fun g => ?_) (fun g => ?_)
    · replace h := h.1 g
      refine zf_gs (g := 4) (pc' := 68) dX0_from_65 rfl rfl rfl ?_
      refine zf_ld (pc' := 70) (v := .inl v5) dX0_from_68 rfl (fun _ _ _ => rfl) rfl rfl rfl ?_
      refine zf_ic (v := 3) (pc' := 71) dX0_from_70 rfl rfl ?_
      refine zf_in (pc' := 72) (S' := [.inl (v5 * 3), .inr (.inr (4, 4))]) dX0_from_71 rfl (fun _ _ _ => rfl) ?_
      refine zf_ld (pc' := 73) (v := .inl v2) dX0_from_72 rfl (fun _ _ _ => rfl) rfl rfl rfl ?_
      refine zf_in (pc' := 74) (S' := [.inl ((v5 * 3) + v2), .inr (.inr (4, 4))]) dX0_from_73 rfl (fun _ _ _ => rfl) ?_
      refine zf_ials (pc' := 75) dX0_from_74 rfl (by decide) (n := 21) rfl h.1 ?_
      replace h := h.2
      refine zf_st (pc' := 77) (L2 := [some (.inr (.inr (1, 44))), none, some (.inl v2), some (.inl v3), some (.inl v4), some (.inl v5), some (.inl ((zx_sa.getD 4 []).getD (Int32.toInt ((v5 * 3) + v2)).toNat 0))]) dX0_from_75 rfl (fun _ _ _ => rfl) rfl rfl rfl rfl rfl rfl ?_
      refine zf_ld (pc' := 78) (v := .inr (.inr (1, 44))) dX0_from_77 rfl (fun _ _ _ => rfl) rfl rfl rfl ?_
      refine zf_gfi (pc' := 81) dX0_from_78 rfl rfl (by decide) rfl rfl ?_
      refine zf_bi (v := 20) (pc' := 83) dX0_from_81 rfl rfl ?_
      refine zf_icmp_ge (tgt := 97) (pc' := 86) dX0_from_83 rfl rfl (fun g => ?_) (fun g => ?_)
      · replace h := h.1 g
        exact zf_lo (zq_4_97 (by omega) hR h) ⟨rfl, rfl, rfl, rfl, rfl, trivial⟩
      · replace h := h.2 g
        refine zf_ld (pc' := 87) (v := .inr (.inr (1, 44))) dX0_from_86 rfl (fun _ _ _ => rfl) rfl rfl rfl ?_
        refine zf_gfr (pc' := 90) (b := 45) dX0_from_87 rfl rfl (by decide) rfl rfl ?_
        refine zf_ld (pc' := 91) (v := .inr (.inr (1, 44))) dX0_from_90 rfl (fun _ _ _ => rfl) rfl rfl rfl ?_
        refine zf_gfi (pc' := 94) dX0_from_91 rfl rfl (by decide) rfl rfl ?_
        refine zf_ld (pc' := 96) (v := .inl ((zx_sa.getD 4 []).getD (Int32.toInt ((v5 * 3) + v2)).toNat 0)) dX0_from_94 rfl (fun _ _ _ => rfl) rfl rfl rfl ?_
        refine zf_ias (pc' := 97) dX0_from_96 rfl (⟨by decide, rfl⟩ : zf_arr 45 20).1 (⟨by decide, rfl⟩ : zf_arr 45 20).2 h.1 rfl (fun m7 e8 => ?_)
        replace h := h.2 m7 e8
        exact zf_lo (zq_4_97 (by omega) hR h) ⟨rfl, rfl, rfl, rfl, rfl, trivial⟩
    · replace h := h.2 g
      refine zf_ic (v := 0) (pc' := 64) dX0_from_63 rfl rfl ?_
      exact zf_ri dX0_from_64 rfl h
def wq_4_6 (R : Int32 → Int32 → Int32 → Int32 → zf_Me → (Int32 → zf_Me → Prop) → Prop) (v1 : Int32) (v2 : Int32) (v3 : Int32) (v4 : Int32) (Q : Int32 → zf_Me → Prop) : Nat → Int32 → Int32 → zf_Me → Prop
  | 0, _, _, _ => False
  | n + 1, v5, v6, m => ((v6.toInt ≥ 7 → wq_4_48 R v1 v2 v3 v4 v5 m Q) ∧ (v6.toInt < 7 → wp_115 v5 m (fun b9 m10 => ((b9 = false → wq_4_48 R v1 v2 v3 v4 v5 m10 Q) ∧ (b9 = true → ((0 ≤ (((v5 * 3) + v2)).toInt ∧ (((v5 * 3) + v2)).toInt < 21) ∧ ((¬ (((zx_sa.getD 4 []).getD (Int32.toInt ((v5 * 3) + v2)).toNat 0)).toInt = 0 → wq_4_48 R v1 v2 v3 v4 v5 m10 Q) ∧ ((((zx_sa.getD 4 []).getD (Int32.toInt ((v5 * 3) + v2)).toNat 0)).toInt = 0 → ((0 ≤ (v5).toInt ∧ (v5).toInt < 7) ∧ wq_4_6 R v1 v2 v3 v4 Q n ((zx_sa.getD 0 []).getD (Int32.toInt v5).toNat 0) (v6 + 1) m10)))))))))
theorem zq_4_6 {e : Nat} (hd : 0 ≤ e) {R : Int32 → Int32 → Int32 → Int32 → zf_Me → (Int32 → zf_Me → Prop) → Prop} (hR : ∀ (v1 : Int32) (v2 : Int32) (v3 : Int32) (v4 : Int32) (m : zf_Me) (Q : Int32 → zf_Me → Prop), R v1 v2 v3 v4 m Q → zf_M e 4 [.inr (.inr (1, 44)), .inl v1, .inl v2, .inl v3, .inl v4] m (zf_I Q)) {v1 : Int32} {v2 : Int32} {v3 : Int32} {v4 : Int32} {Q : Int32 → zf_Me → Prop} : ∀ (n : Nat) (v5 : Int32) (v6 : Int32) (m : zf_Me), wq_4_6 R v1 v2 v3 v4 Q n v5 v6 m → zf_W none 0 0 (e + 2) zt_4 6 [some (.inr (.inr (1, 44))), none, some (.inl v2), some (.inl v3), some (.inl v4), some (.inl v5), some (.inl v6)] [] m (zf_I Q) := by
  intro n
  induction n with
  | zero =>
    intro v5 v6 m h
    exact h.elim
  | succ n ih =>
    intro v5 v6 m h
    unfold wq_4_6 at h
    refine zf_ld (pc' := 8) (v := .inl v6) dX0_from_6 rfl (fun _ _ _ => rfl) rfl rfl rfl ?_
    refine zf_bi (v := 7) (pc' := 10) dX0_from_8 rfl rfl ?_
    refine zf_icmp_ge (tgt := 48) (pc' := 13) dX0_from_10 rfl rfl (fun g => ?_) (fun g => ?_)
    · replace h := h.1 g
      exact zf_lo (zq_4_48 (by omega) hR h) ⟨rfl, rfl, rfl, rfl, rfl, trivial⟩
    · replace h := h.2 g
      refine zf_ld (pc' := 15) (v := .inl v5) dX0_from_13 rfl (fun _ _ _ => rfl) rfl rfl rfl ?_
      refine zf_is (k := 115) (pc' := 18) (r := []) dX0_from_15 rfl rfl rfl rfl rfl (zr_115 (by omega) h) (zf_kB (fun b9 m10 h => ?_))
      refine zf_ib_eq (tgt := 48) (pc' := 21) dX0_from_18 rfl rfl (fun g => ?_) (fun g => ?_)
      · replace h := h.1 g
        exact zf_lo (zq_4_48 (by omega) hR h) ⟨rfl, rfl, rfl, rfl, rfl, trivial⟩
      · replace h := h.2 g
        refine zf_gs (g := 4) (pc' := 24) dX0_from_21 rfl rfl rfl ?_
        refine zf_ld (pc' := 26) (v := .inl v5) dX0_from_24 rfl (fun _ _ _ => rfl) rfl rfl rfl ?_
        refine zf_ic (v := 3) (pc' := 27) dX0_from_26 rfl rfl ?_
        refine zf_in (pc' := 28) (S' := [.inl (v5 * 3), .inr (.inr (4, 4))]) dX0_from_27 rfl (fun _ _ _ => rfl) ?_
        refine zf_ld (pc' := 29) (v := .inl v2) dX0_from_28 rfl (fun _ _ _ => rfl) rfl rfl rfl ?_
        refine zf_in (pc' := 30) (S' := [.inl ((v5 * 3) + v2), .inr (.inr (4, 4))]) dX0_from_29 rfl (fun _ _ _ => rfl) ?_
        refine zf_ials (pc' := 31) dX0_from_30 rfl (by decide) (n := 21) rfl h.1 ?_
        replace h := h.2
        refine zf_if_ne (tgt := 48) (pc' := 34) dX0_from_31 rfl rfl (fun g => ?_) (fun g => ?_)
        · replace h := h.1 g
          exact zf_lo (zq_4_48 (by omega) hR h) ⟨rfl, rfl, rfl, rfl, rfl, trivial⟩
        · replace h := h.2 g
          refine zf_gs (g := 0) (pc' := 37) dX0_from_34 rfl rfl rfl ?_
          refine zf_ld (pc' := 39) (v := .inl v5) dX0_from_37 rfl (fun _ _ _ => rfl) rfl rfl rfl ?_
          refine zf_ials (pc' := 40) dX0_from_39 rfl (by decide) (n := 7) rfl h.1 ?_
          replace h := h.2
          refine zf_st (pc' := 42) (L2 := [some (.inr (.inr (1, 44))), none, some (.inl v2), some (.inl v3), some (.inl v4), some (.inl ((zx_sa.getD 0 []).getD (Int32.toInt v5).toNat 0)), some (.inl v6)]) dX0_from_40 rfl (fun _ _ _ => rfl) rfl rfl rfl rfl rfl rfl ?_
          refine zf_ii (y := (v6 + 1)) (L2 := [some (.inr (.inr (1, 44))), none, some (.inl v2), some (.inl v3), some (.inl v4), some (.inl ((zx_sa.getD 0 []).getD (Int32.toInt v5).toNat 0)), some (.inl (v6 + 1))]) (pc' := 45) dX0_from_42 rfl rfl rfl rfl rfl ?_
          refine zf_goto (tgt := 6) dX0_from_45 rfl ?_
          exact zf_lo (ih _ _ _ h) ⟨rfl, rfl, rfl, rfl, rfl, rfl, trivial⟩
def wb_4 (R : Int32 → Int32 → Int32 → Int32 → zf_Me → (Int32 → zf_Me → Prop) → Prop) (v1 : Int32) (v2 : Int32) (v3 : Int32) (v4 : Int32) (m : zf_Me) (Q : Int32 → zf_Me → Prop) : Prop := (∃ n6, wq_4_6 R v1 v2 v3 v4 Q n6 v1 0 m)
theorem zb_4 {e : Nat} (hd : 0 ≤ e) {R : Int32 → Int32 → Int32 → Int32 → zf_Me → (Int32 → zf_Me → Prop) → Prop} (hR : ∀ (v1 : Int32) (v2 : Int32) (v3 : Int32) (v4 : Int32) (m : zf_Me) (Q : Int32 → zf_Me → Prop), R v1 v2 v3 v4 m Q → zf_M e 4 [.inr (.inr (1, 44)), .inl v1, .inl v2, .inl v3, .inl v4] m (zf_I Q)) {v1 : Int32} {v2 : Int32} {v3 : Int32} {v4 : Int32} {Q : Int32 → zf_Me → Prop} {m : zf_Me} (h : wb_4 R v1 v2 v3 v4 m Q) : zf_M (e + 2) 4 [.inr (.inr (1, 44)), .inl v1, .inl v2, .inl v3, .inl v4] m (zf_I Q) := by
  unfold wb_4 at h
  refine zf_M_of (Nat.le_of_ble_eq_true rfl) zm_4 (L := [some (.inr (.inr (1, 44))), some (.inl v1), some (.inl v2), some (.inl v3), some (.inl v4), none, none]) rfl ?_
  refine zf_ld (pc' := 1) (v := .inl v1) dX0_from_0 rfl (fun _ _ _ => rfl) rfl rfl rfl ?_
  refine zf_st (pc' := 3) (L2 := [some (.inr (.inr (1, 44))), some (.inl v1), some (.inl v2), some (.inl v3), some (.inl v4), some (.inl v1), none]) dX0_from_1 rfl (fun _ _ _ => rfl) rfl rfl rfl rfl rfl rfl ?_
  refine zf_ic (v := 0) (pc' := 4) dX0_from_3 rfl rfl ?_
  refine zf_st (pc' := 6) (L2 := [some (.inr (.inr (1, 44))), some (.inl v1), some (.inl v2), some (.inl v3), some (.inl v4), some (.inl v1), some (.inl 0)]) dX0_from_4 rfl (fun _ _ _ => rfl) rfl rfl rfl rfl rfl rfl ?_
  obtain ⟨n6, h⟩ := h
  exact zf_lo (zq_4_6 (by omega) hR n6 _ _ _ h) ⟨rfl, rfl, rfl, rfl, rfl, rfl, trivial⟩
def wp_4 : Nat → Int32 → Int32 → Int32 → Int32 → zf_Me → (Int32 → zf_Me → Prop) → Prop
  | 0, _, _, _, _, _, _ => False
  | n + 1, v1, v2, v3, v4, m, Q => wb_4 (wp_4 n) v1 v2 v3 v4 m Q
theorem zr_4 : ∀ (n : Nat) {d : Nat} (_ : 2 * n + 3 ≤ d) {v1 : Int32} {v2 : Int32} {v3 : Int32} {v4 : Int32} {m : zf_Me} {Q : Int32 → zf_Me → Prop} (_ : wp_4 n v1 v2 v3 v4 m Q), zf_M d 4 [.inr (.inr (1, 44)), .inl v1, .inl v2, .inl v3, .inl v4] m (zf_I Q) := by
  intro n
  induction n with
  | zero => intro d _ _ _ _ _ m Q h; exact h.elim
  | succ n ih =>
    intro d hd _ _ _ _ m Q h
    obtain ⟨e, rfl⟩ : ∃ z, d = z + 2 := ⟨d - 2, by omega⟩
    exact zb_4 (e := e) (R := wp_4 n) (by omega) (fun _ _ _ _ m Q h => ih (by omega) h) h
def zt_2 : zx_MT := (0, yX0_run, cX0_run, 5, (some FieldType.int), 4, 0)
theorem zm_2 : zx_m 2 = zt_2 := rfl
theorem dX0_run_r0 : zdcP cX0_run 0 [(.aload_n 0, 1), (.invokevirtual 28, 3), (.aload_n 0, 1), (.aload_n 1, 1), (.getfield 31, 3), (.iload_n 2, 1), (.iaload, 1), (.putfield 19, 3), (.aload_n 0, 1), (.iload_n 2, 1), (.putfield 22, 3), (.aload_n 0, 1), (.aload_n 1, 1), (.getfield 36, 3), (.iload_n 2, 1), (.iaload, 1)] := zdcA_ok (by decide +kernel)
theorem dX0_run_0 : decode cX0_run 0 = .ok (.aload_n 0, 1) := dX0_run_r0.1
theorem dX0_run_1 : decode cX0_run 1 = .ok (.invokevirtual 28, 3) := dX0_run_r0.2.1
theorem dX0_run_4 : decode cX0_run 4 = .ok (.aload_n 0, 1) := dX0_run_r0.2.2.1
theorem dX0_run_5 : decode cX0_run 5 = .ok (.aload_n 1, 1) := dX0_run_r0.2.2.2.1
theorem dX0_run_6 : decode cX0_run 6 = .ok (.getfield 31, 3) := dX0_run_r0.2.2.2.2.1
theorem dX0_run_9 : decode cX0_run 9 = .ok (.iload_n 2, 1) := dX0_run_r0.2.2.2.2.2.1
theorem dX0_run_10 : decode cX0_run 10 = .ok (.iaload, 1) := dX0_run_r0.2.2.2.2.2.2.1
theorem dX0_run_11 : decode cX0_run 11 = .ok (.putfield 19, 3) := dX0_run_r0.2.2.2.2.2.2.2.1
theorem dX0_run_14 : decode cX0_run 14 = .ok (.aload_n 0, 1) := dX0_run_r0.2.2.2.2.2.2.2.2.1
theorem dX0_run_15 : decode cX0_run 15 = .ok (.iload_n 2, 1) := dX0_run_r0.2.2.2.2.2.2.2.2.2.1
theorem dX0_run_16 : decode cX0_run 16 = .ok (.putfield 22, 3) := dX0_run_r0.2.2.2.2.2.2.2.2.2.2.1
theorem dX0_run_19 : decode cX0_run 19 = .ok (.aload_n 0, 1) := dX0_run_r0.2.2.2.2.2.2.2.2.2.2.2.1
theorem dX0_run_20 : decode cX0_run 20 = .ok (.aload_n 1, 1) := dX0_run_r0.2.2.2.2.2.2.2.2.2.2.2.2.1
theorem dX0_run_21 : decode cX0_run 21 = .ok (.getfield 36, 3) := dX0_run_r0.2.2.2.2.2.2.2.2.2.2.2.2.2.1
theorem dX0_run_24 : decode cX0_run 24 = .ok (.iload_n 2, 1) := dX0_run_r0.2.2.2.2.2.2.2.2.2.2.2.2.2.2.1
theorem dX0_run_25 : decode cX0_run 25 = .ok (.iaload, 1) := dX0_run_r0.2.2.2.2.2.2.2.2.2.2.2.2.2.2.2.1
theorem dX0_run_r26 : zdcP cX0_run 26 [(.putfield 25, 3), (.aload_n 0, 1), (.aload_n 0, 1), (.getfield 19, 3), (.iload_n 3, 1), (.iload 4, 2), (.iconst 0, 1), (.invokevirtual 39, 3), (.ireturn, 1)] := zdcA_ok (by decide +kernel)
theorem dX0_run_26 : decode cX0_run 26 = .ok (.putfield 25, 3) := dX0_run_r26.1
theorem dX0_run_29 : decode cX0_run 29 = .ok (.aload_n 0, 1) := dX0_run_r26.2.1
theorem dX0_run_30 : decode cX0_run 30 = .ok (.aload_n 0, 1) := dX0_run_r26.2.2.1
theorem dX0_run_31 : decode cX0_run 31 = .ok (.getfield 19, 3) := dX0_run_r26.2.2.2.1
theorem dX0_run_34 : decode cX0_run 34 = .ok (.iload_n 3, 1) := dX0_run_r26.2.2.2.2.1
theorem dX0_run_35 : decode cX0_run 35 = .ok (.iload 4, 2) := dX0_run_r26.2.2.2.2.2.1
theorem dX0_run_37 : decode cX0_run 37 = .ok (.iconst 0, 1) := dX0_run_r26.2.2.2.2.2.2.1
theorem dX0_run_38 : decode cX0_run 38 = .ok (.invokevirtual 39, 3) := dX0_run_r26.2.2.2.2.2.2.2.1
theorem dX0_run_41 : decode cX0_run 41 = .ok (.ireturn, 1) := dX0_run_r26.2.2.2.2.2.2.2.2.1
def wp_2 (y1 : Nat) (v2 : Int32) (v3 : Int32) (v4 : Int32) (m : zf_Me) (Q : Int32 → zf_Me → Prop) : Prop := wp_1 m (fun m2 => ((0 ≤ (Int32.toInt v2) ∧ (Int32.toInt v2) < (6 : Int)) ∧ (∀ m3, m3 = zf_u m2 44 2 (m2.1 (y1 + 3) (Int32.toInt v2).toNat) → (∀ m5, m5 = zf_u m3 44 3 v2 → ((0 ≤ (Int32.toInt v2) ∧ (Int32.toInt v2) < (6 : Int)) ∧ (∀ m7, m7 = zf_u m5 44 4 (m5.1 (y1 + 4) (Int32.toInt v2).toNat) → (∃ nx9, nx9 ≤ 45 ∧ wp_4 nx9 (m7.1 44 2) v3 v4 0 m7 (fun x9 m10 => Q x9 m10))))))))
theorem zr_2 {d : Nat} (hd : 94 ≤ d) {y1 : Nat} (hp1 : zf_way y1) {v2 : Int32} {v3 : Int32} {v4 : Int32} {Q : Int32 → zf_Me → Prop} {m : zf_Me} (h : wp_2 y1 v2 v3 v4 m Q) : zf_M d 2 [.inr (.inr (1, 44)), .inr (.inr (1, y1)), .inl v2, .inl v3, .inl v4] m (zf_I Q) := by
  obtain ⟨e, rfl⟩ : ∃ z, d = z + 1 := ⟨d - 1, by omega⟩
  unfold wp_2 at h
  refine zf_M_of (Nat.le_of_ble_eq_true rfl) zm_2 (L := [some (.inr (.inr (1, 44))), some (.inr (.inr (1, y1))), some (.inl v2), some (.inl v3), some (.inl v4)]) rfl ?_
  refine zf_ld (pc' := 1) (v := .inr (.inr (1, 44))) dX0_run_0 rfl (fun _ _ _ => rfl) rfl rfl rfl ?_
  refine zf_iv (k := 1) (pc' := 4) (r := []) dX0_run_1 rfl rfl rfl rfl (by decide) rfl rfl rfl (zr_1 (by omega) h) (zf_kO (fun m2 h => ?_))
  refine zf_ld (pc' := 5) (v := .inr (.inr (1, 44))) dX0_run_4 rfl (fun _ _ _ => rfl) rfl rfl rfl ?_
  refine zf_ld (pc' := 6) (v := .inr (.inr (1, y1))) dX0_run_5 rfl (fun _ _ _ => rfl) rfl rfl rfl ?_
  refine zf_gfr (pc' := 9) (b := (y1 + 3)) dX0_run_6 rfl rfl hp1.1 hp1.2.1 rfl ?_
  refine zf_ld (pc' := 10) (v := .inl v2) dX0_run_9 rfl (fun _ _ _ => rfl) rfl rfl rfl ?_
  refine zf_ial (pc' := 11) dX0_run_10 rfl hp1.2.2.2.2.1.1 hp1.2.2.2.2.1.2 h.1 rfl ?_
  replace h := h.2
  refine zf_pf (pc' := 14) dX0_run_11 rfl rfl (by decide) rfl rfl rfl (fun m3 e4 => ?_)
  replace h := h m3 e4
  refine zf_ld (pc' := 15) (v := .inr (.inr (1, 44))) dX0_run_14 rfl (fun _ _ _ => rfl) rfl rfl rfl ?_
  refine zf_ld (pc' := 16) (v := .inl v2) dX0_run_15 rfl (fun _ _ _ => rfl) rfl rfl rfl ?_
  refine zf_pf (pc' := 19) dX0_run_16 rfl rfl (by decide) rfl rfl rfl (fun m5 e6 => ?_)
  replace h := h m5 e6
  refine zf_ld (pc' := 20) (v := .inr (.inr (1, 44))) dX0_run_19 rfl (fun _ _ _ => rfl) rfl rfl rfl ?_
  refine zf_ld (pc' := 21) (v := .inr (.inr (1, y1))) dX0_run_20 rfl (fun _ _ _ => rfl) rfl rfl rfl ?_
  refine zf_gfr (pc' := 24) (b := (y1 + 4)) dX0_run_21 rfl rfl hp1.1 hp1.2.1 rfl ?_
  refine zf_ld (pc' := 25) (v := .inl v2) dX0_run_24 rfl (fun _ _ _ => rfl) rfl rfl rfl ?_
  refine zf_ial (pc' := 26) dX0_run_25 rfl hp1.2.2.2.2.2.1 hp1.2.2.2.2.2.2 h.1 rfl ?_
  replace h := h.2
  refine zf_pf (pc' := 29) dX0_run_26 rfl rfl (by decide) rfl rfl rfl (fun m7 e8 => ?_)
  replace h := h m7 e8
  refine zf_ld (pc' := 30) (v := .inr (.inr (1, 44))) dX0_run_29 rfl (fun _ _ _ => rfl) rfl rfl rfl ?_
  refine zf_ld (pc' := 31) (v := .inr (.inr (1, 44))) dX0_run_30 rfl (fun _ _ _ => rfl) rfl rfl rfl ?_
  refine zf_gfi (pc' := 34) dX0_run_31 rfl rfl (by decide) rfl rfl ?_
  refine zf_ld (pc' := 35) (v := .inl v3) dX0_run_34 rfl (fun _ _ _ => rfl) rfl rfl rfl ?_
  refine zf_ld (pc' := 37) (v := .inl v4) dX0_run_35 rfl (fun _ _ _ => rfl) rfl rfl rfl ?_
  refine zf_ic (v := 0) (pc' := 38) dX0_run_37 rfl rfl ?_
  obtain ⟨nx9, hnx9, h⟩ := h
  refine zf_iv (k := 4) (pc' := 41) (r := []) dX0_run_38 rfl rfl rfl rfl (by decide) rfl rfl rfl (zr_4 nx9 (by omega) h) (zf_kI (fun x9 m10 h => ?_))
  exact zf_ri dX0_run_41 rfl h
def zt_3 : zx_MT := (0, yX0_kept, cX0_kept, 2, (some FieldType.int), 1, 0)
theorem zm_3 : zx_m 3 = zt_3 := rfl
theorem dX0_kept_r0 : zdcP cX0_kept 0 [(.iload_n 1, 1), (.ifCond .lt 26, 3), (.iload_n 1, 1), (.bipush 20, 2), (.if_icmp .ge 20, 3), (.iload_n 1, 1), (.aload_n 0, 1), (.getfield 15, 3), (.if_icmp .ge 12, 3), (.aload_n 0, 1), (.getfield 11, 3), (.iload_n 1, 1), (.iaload, 1), (.goto 4, 3), (.iconst (-1), 1), (.ireturn, 1)] := zdcA_ok (by decide +kernel)
theorem dX0_kept_0 : decode cX0_kept 0 = .ok (.iload_n 1, 1) := dX0_kept_r0.1
theorem dX0_kept_1 : decode cX0_kept 1 = .ok (.ifCond .lt 26, 3) := dX0_kept_r0.2.1
theorem dX0_kept_4 : decode cX0_kept 4 = .ok (.iload_n 1, 1) := dX0_kept_r0.2.2.1
theorem dX0_kept_5 : decode cX0_kept 5 = .ok (.bipush 20, 2) := dX0_kept_r0.2.2.2.1
theorem dX0_kept_7 : decode cX0_kept 7 = .ok (.if_icmp .ge 20, 3) := dX0_kept_r0.2.2.2.2.1
theorem dX0_kept_10 : decode cX0_kept 10 = .ok (.iload_n 1, 1) := dX0_kept_r0.2.2.2.2.2.1
theorem dX0_kept_11 : decode cX0_kept 11 = .ok (.aload_n 0, 1) := dX0_kept_r0.2.2.2.2.2.2.1
theorem dX0_kept_12 : decode cX0_kept 12 = .ok (.getfield 15, 3) := dX0_kept_r0.2.2.2.2.2.2.2.1
theorem dX0_kept_15 : decode cX0_kept 15 = .ok (.if_icmp .ge 12, 3) := dX0_kept_r0.2.2.2.2.2.2.2.2.1
theorem dX0_kept_18 : decode cX0_kept 18 = .ok (.aload_n 0, 1) := dX0_kept_r0.2.2.2.2.2.2.2.2.2.1
theorem dX0_kept_19 : decode cX0_kept 19 = .ok (.getfield 11, 3) := dX0_kept_r0.2.2.2.2.2.2.2.2.2.2.1
theorem dX0_kept_22 : decode cX0_kept 22 = .ok (.iload_n 1, 1) := dX0_kept_r0.2.2.2.2.2.2.2.2.2.2.2.1
theorem dX0_kept_23 : decode cX0_kept 23 = .ok (.iaload, 1) := dX0_kept_r0.2.2.2.2.2.2.2.2.2.2.2.2.1
theorem dX0_kept_24 : decode cX0_kept 24 = .ok (.goto 4, 3) := dX0_kept_r0.2.2.2.2.2.2.2.2.2.2.2.2.2.1
theorem dX0_kept_27 : decode cX0_kept 27 = .ok (.iconst (-1), 1) := dX0_kept_r0.2.2.2.2.2.2.2.2.2.2.2.2.2.2.1
theorem dX0_kept_28 : decode cX0_kept 28 = .ok (.ireturn, 1) := dX0_kept_r0.2.2.2.2.2.2.2.2.2.2.2.2.2.2.2.1
def wp_3 (v1 : Int32) (m : zf_Me) (Q : Int32 → zf_Me → Prop) : Prop := ((v1.toInt < 0 → Q (-1) m) ∧ (v1.toInt ≥ 0 → ((v1.toInt ≥ 20 → Q (-1) m) ∧ (v1.toInt < 20 → ((v1.toInt ≥ ((m.1 44 1)).toInt → Q (-1) m) ∧ (v1.toInt < ((m.1 44 1)).toInt → ((0 ≤ (Int32.toInt v1) ∧ (Int32.toInt v1) < (20 : Int)) ∧ Q (m.1 45 (Int32.toInt v1).toNat) m)))))))
theorem zr_3 {d : Nat} (hd : 0 ≤ d) {v1 : Int32} {Q : Int32 → zf_Me → Prop} {m : zf_Me} (h : wp_3 v1 m Q) : zf_M d 3 [.inr (.inr (1, 44)), .inl v1] m (zf_I Q) := by
  unfold wp_3 at h
  refine zf_M_of (Nat.le_of_ble_eq_true rfl) zm_3 (L := [some (.inr (.inr (1, 44))), some (.inl v1)]) rfl ?_
  refine zf_ld (pc' := 1) (v := .inl v1) dX0_kept_0 rfl (fun _ _ _ => rfl) rfl rfl rfl ?_
  refine zf_if_lt (tgt := 27) (pc' := 4) dX0_kept_1 rfl rfl (fun g => ?_) (fun g => ?_)
  · replace h := h.1 g
    refine zf_ic (v := (-1)) (pc' := 28) dX0_kept_27 rfl rfl ?_
    exact zf_ri dX0_kept_28 rfl h
  · replace h := h.2 g
    refine zf_ld (pc' := 5) (v := .inl v1) dX0_kept_4 rfl (fun _ _ _ => rfl) rfl rfl rfl ?_
    refine zf_bi (v := 20) (pc' := 7) dX0_kept_5 rfl rfl ?_
    refine zf_icmp_ge (tgt := 27) (pc' := 10) dX0_kept_7 rfl rfl (fun g => ?_) (fun g => ?_)
    · replace h := h.1 g
      refine zf_ic (v := (-1)) (pc' := 28) dX0_kept_27 rfl rfl ?_
      exact zf_ri dX0_kept_28 rfl h
    · replace h := h.2 g
      refine zf_ld (pc' := 11) (v := .inl v1) dX0_kept_10 rfl (fun _ _ _ => rfl) rfl rfl rfl ?_
      refine zf_ld (pc' := 12) (v := .inr (.inr (1, 44))) dX0_kept_11 rfl (fun _ _ _ => rfl) rfl rfl rfl ?_
      refine zf_gfi (pc' := 15) dX0_kept_12 rfl rfl (by decide) rfl rfl ?_
      refine zf_icmp_ge (tgt := 27) (pc' := 18) dX0_kept_15 rfl rfl (fun g => ?_) (fun g => ?_)
      · replace h := h.1 g
        refine zf_ic (v := (-1)) (pc' := 28) dX0_kept_27 rfl rfl ?_
        exact zf_ri dX0_kept_28 rfl h
      · replace h := h.2 g
        refine zf_ld (pc' := 19) (v := .inr (.inr (1, 44))) dX0_kept_18 rfl (fun _ _ _ => rfl) rfl rfl rfl ?_
        refine zf_gfr (pc' := 22) (b := 45) dX0_kept_19 rfl rfl (by decide) rfl rfl ?_
        refine zf_ld (pc' := 23) (v := .inl v1) dX0_kept_22 rfl (fun _ _ _ => rfl) rfl rfl rfl ?_
        refine zf_ial (pc' := 24) dX0_kept_23 rfl (⟨by decide, rfl⟩ : zf_arr 45 20).1 (⟨by decide, rfl⟩ : zf_arr 45 20).2 h.1 rfl ?_
        replace h := h.2
        refine zf_goto (tgt := 28) dX0_kept_24 rfl ?_
        exact zf_ri dX0_kept_28 rfl h
def zt_43 : zx_MT := (5, yX5_copyFrom, cX5_copyFrom, 2, none, 1, 0)
theorem zm_43 : zx_m 43 = zt_43 := rfl
theorem dX5_copyFrom_r0 : zdcP cX5_copyFrom 0 [(.aload_n 1, 1), (.getfield 9, 3), (.iconst 0, 1), (.aload_n 0, 1), (.getfield 9, 3), (.iconst 0, 1), (.bipush 6, 2), (.invokestatic 53, 3), (.aload_n 0, 1), (.aload_n 1, 1), (.getfield 15, 3), (.putfield 15, 3), (.aload_n 0, 1), (.aload_n 1, 1), (.getfield 19, 3), (.putfield 19, 3)] := zdcA_ok (by decide +kernel)
theorem dX5_copyFrom_0 : decode cX5_copyFrom 0 = .ok (.aload_n 1, 1) := dX5_copyFrom_r0.1
theorem dX5_copyFrom_1 : decode cX5_copyFrom 1 = .ok (.getfield 9, 3) := dX5_copyFrom_r0.2.1
theorem dX5_copyFrom_4 : decode cX5_copyFrom 4 = .ok (.iconst 0, 1) := dX5_copyFrom_r0.2.2.1
theorem dX5_copyFrom_5 : decode cX5_copyFrom 5 = .ok (.aload_n 0, 1) := dX5_copyFrom_r0.2.2.2.1
theorem dX5_copyFrom_6 : decode cX5_copyFrom 6 = .ok (.getfield 9, 3) := dX5_copyFrom_r0.2.2.2.2.1
theorem dX5_copyFrom_9 : decode cX5_copyFrom 9 = .ok (.iconst 0, 1) := dX5_copyFrom_r0.2.2.2.2.2.1
theorem dX5_copyFrom_10 : decode cX5_copyFrom 10 = .ok (.bipush 6, 2) := dX5_copyFrom_r0.2.2.2.2.2.2.1
theorem dX5_copyFrom_12 : decode cX5_copyFrom 12 = .ok (.invokestatic 53, 3) := dX5_copyFrom_r0.2.2.2.2.2.2.2.1
theorem dX5_copyFrom_15 : decode cX5_copyFrom 15 = .ok (.aload_n 0, 1) := dX5_copyFrom_r0.2.2.2.2.2.2.2.2.1
theorem dX5_copyFrom_16 : decode cX5_copyFrom 16 = .ok (.aload_n 1, 1) := dX5_copyFrom_r0.2.2.2.2.2.2.2.2.2.1
theorem dX5_copyFrom_17 : decode cX5_copyFrom 17 = .ok (.getfield 15, 3) := dX5_copyFrom_r0.2.2.2.2.2.2.2.2.2.2.1
theorem dX5_copyFrom_20 : decode cX5_copyFrom 20 = .ok (.putfield 15, 3) := dX5_copyFrom_r0.2.2.2.2.2.2.2.2.2.2.2.1
theorem dX5_copyFrom_23 : decode cX5_copyFrom 23 = .ok (.aload_n 0, 1) := dX5_copyFrom_r0.2.2.2.2.2.2.2.2.2.2.2.2.1
theorem dX5_copyFrom_24 : decode cX5_copyFrom 24 = .ok (.aload_n 1, 1) := dX5_copyFrom_r0.2.2.2.2.2.2.2.2.2.2.2.2.2.1
theorem dX5_copyFrom_25 : decode cX5_copyFrom 25 = .ok (.getfield 19, 3) := dX5_copyFrom_r0.2.2.2.2.2.2.2.2.2.2.2.2.2.2.1
theorem dX5_copyFrom_28 : decode cX5_copyFrom 28 = .ok (.putfield 19, 3) := dX5_copyFrom_r0.2.2.2.2.2.2.2.2.2.2.2.2.2.2.2.1
theorem dX5_copyFrom_r31 : zdcP cX5_copyFrom 31 [(.aload_n 0, 1), (.aload_n 1, 1), (.getfield 22, 3), (.putfield 22, 3), (.aload_n 0, 1), (.aload_n 1, 1), (.getfield 25, 3), (.putfield 25, 3), (.aload_n 0, 1), (.aload_n 1, 1), (.getfield 28, 3), (.putfield 28, 3), (.aload_n 0, 1), (.aload_n 1, 1), (.getfield 31, 3), (.putfield 31, 3)] := zdcA_ok (by decide +kernel)
theorem dX5_copyFrom_31 : decode cX5_copyFrom 31 = .ok (.aload_n 0, 1) := dX5_copyFrom_r31.1
theorem dX5_copyFrom_32 : decode cX5_copyFrom 32 = .ok (.aload_n 1, 1) := dX5_copyFrom_r31.2.1
theorem dX5_copyFrom_33 : decode cX5_copyFrom 33 = .ok (.getfield 22, 3) := dX5_copyFrom_r31.2.2.1
theorem dX5_copyFrom_36 : decode cX5_copyFrom 36 = .ok (.putfield 22, 3) := dX5_copyFrom_r31.2.2.2.1
theorem dX5_copyFrom_39 : decode cX5_copyFrom 39 = .ok (.aload_n 0, 1) := dX5_copyFrom_r31.2.2.2.2.1
theorem dX5_copyFrom_40 : decode cX5_copyFrom 40 = .ok (.aload_n 1, 1) := dX5_copyFrom_r31.2.2.2.2.2.1
theorem dX5_copyFrom_41 : decode cX5_copyFrom 41 = .ok (.getfield 25, 3) := dX5_copyFrom_r31.2.2.2.2.2.2.1
theorem dX5_copyFrom_44 : decode cX5_copyFrom 44 = .ok (.putfield 25, 3) := dX5_copyFrom_r31.2.2.2.2.2.2.2.1
theorem dX5_copyFrom_47 : decode cX5_copyFrom 47 = .ok (.aload_n 0, 1) := dX5_copyFrom_r31.2.2.2.2.2.2.2.2.1
theorem dX5_copyFrom_48 : decode cX5_copyFrom 48 = .ok (.aload_n 1, 1) := dX5_copyFrom_r31.2.2.2.2.2.2.2.2.2.1
theorem dX5_copyFrom_49 : decode cX5_copyFrom 49 = .ok (.getfield 28, 3) := dX5_copyFrom_r31.2.2.2.2.2.2.2.2.2.2.1
theorem dX5_copyFrom_52 : decode cX5_copyFrom 52 = .ok (.putfield 28, 3) := dX5_copyFrom_r31.2.2.2.2.2.2.2.2.2.2.2.1
theorem dX5_copyFrom_55 : decode cX5_copyFrom 55 = .ok (.aload_n 0, 1) := dX5_copyFrom_r31.2.2.2.2.2.2.2.2.2.2.2.2.1
theorem dX5_copyFrom_56 : decode cX5_copyFrom 56 = .ok (.aload_n 1, 1) := dX5_copyFrom_r31.2.2.2.2.2.2.2.2.2.2.2.2.2.1
theorem dX5_copyFrom_57 : decode cX5_copyFrom 57 = .ok (.getfield 31, 3) := dX5_copyFrom_r31.2.2.2.2.2.2.2.2.2.2.2.2.2.2.1
theorem dX5_copyFrom_60 : decode cX5_copyFrom 60 = .ok (.putfield 31, 3) := dX5_copyFrom_r31.2.2.2.2.2.2.2.2.2.2.2.2.2.2.2.1
theorem dX5_copyFrom_r63 : zdcP cX5_copyFrom 63 [(.aload_n 0, 1), (.aload_n 1, 1), (.getfield 34, 3), (.putfield 34, 3), (.aload_n 0, 1), (.aload_n 1, 1), (.getfield 37, 3), (.putfield 37, 3), (.aload_n 0, 1), (.aload_n 1, 1), (.getfield 40, 3), (.putfield 40, 3), (.aload_n 0, 1), (.aload_n 1, 1), (.getfield 43, 3), (.putfield 43, 3)] := zdcA_ok (by decide +kernel)
theorem dX5_copyFrom_63 : decode cX5_copyFrom 63 = .ok (.aload_n 0, 1) := dX5_copyFrom_r63.1
theorem dX5_copyFrom_64 : decode cX5_copyFrom 64 = .ok (.aload_n 1, 1) := dX5_copyFrom_r63.2.1
theorem dX5_copyFrom_65 : decode cX5_copyFrom 65 = .ok (.getfield 34, 3) := dX5_copyFrom_r63.2.2.1
theorem dX5_copyFrom_68 : decode cX5_copyFrom 68 = .ok (.putfield 34, 3) := dX5_copyFrom_r63.2.2.2.1
theorem dX5_copyFrom_71 : decode cX5_copyFrom 71 = .ok (.aload_n 0, 1) := dX5_copyFrom_r63.2.2.2.2.1
theorem dX5_copyFrom_72 : decode cX5_copyFrom 72 = .ok (.aload_n 1, 1) := dX5_copyFrom_r63.2.2.2.2.2.1
theorem dX5_copyFrom_73 : decode cX5_copyFrom 73 = .ok (.getfield 37, 3) := dX5_copyFrom_r63.2.2.2.2.2.2.1
theorem dX5_copyFrom_76 : decode cX5_copyFrom 76 = .ok (.putfield 37, 3) := dX5_copyFrom_r63.2.2.2.2.2.2.2.1
theorem dX5_copyFrom_79 : decode cX5_copyFrom 79 = .ok (.aload_n 0, 1) := dX5_copyFrom_r63.2.2.2.2.2.2.2.2.1
theorem dX5_copyFrom_80 : decode cX5_copyFrom 80 = .ok (.aload_n 1, 1) := dX5_copyFrom_r63.2.2.2.2.2.2.2.2.2.1
theorem dX5_copyFrom_81 : decode cX5_copyFrom 81 = .ok (.getfield 40, 3) := dX5_copyFrom_r63.2.2.2.2.2.2.2.2.2.2.1
theorem dX5_copyFrom_84 : decode cX5_copyFrom 84 = .ok (.putfield 40, 3) := dX5_copyFrom_r63.2.2.2.2.2.2.2.2.2.2.2.1
theorem dX5_copyFrom_87 : decode cX5_copyFrom 87 = .ok (.aload_n 0, 1) := dX5_copyFrom_r63.2.2.2.2.2.2.2.2.2.2.2.2.1
theorem dX5_copyFrom_88 : decode cX5_copyFrom 88 = .ok (.aload_n 1, 1) := dX5_copyFrom_r63.2.2.2.2.2.2.2.2.2.2.2.2.2.1
theorem dX5_copyFrom_89 : decode cX5_copyFrom 89 = .ok (.getfield 43, 3) := dX5_copyFrom_r63.2.2.2.2.2.2.2.2.2.2.2.2.2.2.1
theorem dX5_copyFrom_92 : decode cX5_copyFrom 92 = .ok (.putfield 43, 3) := dX5_copyFrom_r63.2.2.2.2.2.2.2.2.2.2.2.2.2.2.2.1
theorem dX5_copyFrom_r95 : zdcP cX5_copyFrom 95 [(.aload_n 0, 1), (.aload_n 1, 1), (.getfield 46, 3), (.putfield 46, 3), (.return_, 1)] := zdcA_ok (by decide +kernel)
theorem dX5_copyFrom_95 : decode cX5_copyFrom 95 = .ok (.aload_n 0, 1) := dX5_copyFrom_r95.1
theorem dX5_copyFrom_96 : decode cX5_copyFrom 96 = .ok (.aload_n 1, 1) := dX5_copyFrom_r95.2.1
theorem dX5_copyFrom_97 : decode cX5_copyFrom 97 = .ok (.getfield 46, 3) := dX5_copyFrom_r95.2.2.1
theorem dX5_copyFrom_100 : decode cX5_copyFrom 100 = .ok (.putfield 46, 3) := dX5_copyFrom_r95.2.2.2.1
theorem dX5_copyFrom_103 : decode cX5_copyFrom 103 = .ok (.return_, 1) := dX5_copyFrom_r95.2.2.2.2.1
def wp_43 (w0 : Nat) (y0 : Nat) (r0 : Nat) (w1 : Nat) (y1 : Nat) (r1 : Nat) (m : zf_Me) (Q : zf_Me → Prop) : Prop := (∀ m1, m1 = zf_cp m r1 r0 0 0 6 → (∀ m3, m3 = zf_u m1 w0 2 (m1.1 w1 2) → (∀ m5, m5 = zf_u m3 w0 3 (m3.1 w1 3) → (∀ m7, m7 = zf_u m5 w0 4 (m5.1 w1 4) → (∀ m9, m9 = zf_u m7 w0 5 (m7.1 w1 5) → (∀ m11, m11 = zf_u m9 w0 6 (m9.1 w1 6) → (∀ m13, m13 = zf_u m11 w0 7 (m11.1 w1 7) → (∀ m15, m15 = zf_u m13 w0 8 (m13.1 w1 8) → (∀ m17, m17 = zf_u m15 w0 9 (m15.1 w1 9) → (∀ m19, m19 = zf_u m17 w0 10 (m17.1 w1 10) → (∀ m21, m21 = zf_u m19 w0 11 (m19.1 w1 11) → (∀ m23, m23 = zf_u m21 w0 12 (m21.1 w1 12) → Q m23))))))))))))
theorem zr_43 {d : Nat} (hd : 0 ≤ d) {w0 : Nat} {y0 : Nat} {r0 : Nat} {w1 : Nat} {y1 : Nat} {r1 : Nat} (hp0 : zf_walk w0 y0 r0) (hp1 : zf_walk w1 y1 r1) {Q : zf_Me → Prop} {m : zf_Me} (h : wp_43 w0 y0 r0 w1 y1 r1 m Q) : zf_M d 43 [.inr (.inr (1, w0)), .inr (.inr (1, w1))] m (zf_O Q) := by
  unfold wp_43 at h
  refine zf_M_of (Nat.le_of_ble_eq_true rfl) zm_43 (L := [some (.inr (.inr (1, w0))), some (.inr (.inr (1, w1)))]) rfl ?_
  refine zf_ld (pc' := 1) (v := .inr (.inr (1, w1))) dX5_copyFrom_0 rfl (fun _ _ _ => rfl) rfl rfl rfl ?_
  refine zf_gfr (pc' := 4) (b := r1) dX5_copyFrom_1 rfl rfl hp1.1 hp1.2.1 rfl ?_
  refine zf_ic (v := 0) (pc' := 5) dX5_copyFrom_4 rfl rfl ?_
  refine zf_ld (pc' := 6) (v := .inr (.inr (1, w0))) dX5_copyFrom_5 rfl (fun _ _ _ => rfl) rfl rfl rfl ?_
  refine zf_gfr (pc' := 9) (b := r0) dX5_copyFrom_6 rfl rfl hp0.1 hp0.2.1 rfl ?_
  refine zf_ic (v := 0) (pc' := 10) dX5_copyFrom_9 rfl rfl ?_
  refine zf_bi (v := 6) (pc' := 12) dX5_copyFrom_10 rfl rfl ?_
  refine zf_ac (pc' := 15) dX5_copyFrom_12 rfl rfl (q0 := _) rfl hp1.2.2.2.1 hp0.2.2.2.1 hp1.2.2.2.2 hp0.2.2.2.2 rfl (by decide) (fun m1 e2 => ?_)
  replace h := h m1 e2
  refine zf_ld (pc' := 16) (v := .inr (.inr (1, w0))) dX5_copyFrom_15 rfl (fun _ _ _ => rfl) rfl rfl rfl ?_
  refine zf_ld (pc' := 17) (v := .inr (.inr (1, w1))) dX5_copyFrom_16 rfl (fun _ _ _ => rfl) rfl rfl rfl ?_
  refine zf_gfi (pc' := 20) dX5_copyFrom_17 rfl rfl hp1.1 hp1.2.1 rfl ?_
  refine zf_pf (pc' := 23) dX5_copyFrom_20 rfl rfl hp0.1 hp0.2.1 rfl rfl (fun m3 e4 => ?_)
  replace h := h m3 e4
  refine zf_ld (pc' := 24) (v := .inr (.inr (1, w0))) dX5_copyFrom_23 rfl (fun _ _ _ => rfl) rfl rfl rfl ?_
  refine zf_ld (pc' := 25) (v := .inr (.inr (1, w1))) dX5_copyFrom_24 rfl (fun _ _ _ => rfl) rfl rfl rfl ?_
  refine zf_gfi (pc' := 28) dX5_copyFrom_25 rfl rfl hp1.1 hp1.2.1 rfl ?_
  refine zf_pf (pc' := 31) dX5_copyFrom_28 rfl rfl hp0.1 hp0.2.1 rfl rfl (fun m5 e6 => ?_)
  replace h := h m5 e6
  refine zf_ld (pc' := 32) (v := .inr (.inr (1, w0))) dX5_copyFrom_31 rfl (fun _ _ _ => rfl) rfl rfl rfl ?_
  refine zf_ld (pc' := 33) (v := .inr (.inr (1, w1))) dX5_copyFrom_32 rfl (fun _ _ _ => rfl) rfl rfl rfl ?_
  refine zf_gfi (pc' := 36) dX5_copyFrom_33 rfl rfl hp1.1 hp1.2.1 rfl ?_
  refine zf_pf (pc' := 39) dX5_copyFrom_36 rfl rfl hp0.1 hp0.2.1 rfl rfl (fun m7 e8 => ?_)
  replace h := h m7 e8
  refine zf_ld (pc' := 40) (v := .inr (.inr (1, w0))) dX5_copyFrom_39 rfl (fun _ _ _ => rfl) rfl rfl rfl ?_
  refine zf_ld (pc' := 41) (v := .inr (.inr (1, w1))) dX5_copyFrom_40 rfl (fun _ _ _ => rfl) rfl rfl rfl ?_
  refine zf_gfi (pc' := 44) dX5_copyFrom_41 rfl rfl hp1.1 hp1.2.1 rfl ?_
  refine zf_pf (pc' := 47) dX5_copyFrom_44 rfl rfl hp0.1 hp0.2.1 rfl rfl (fun m9 e10 => ?_)
  replace h := h m9 e10
  refine zf_ld (pc' := 48) (v := .inr (.inr (1, w0))) dX5_copyFrom_47 rfl (fun _ _ _ => rfl) rfl rfl rfl ?_
  refine zf_ld (pc' := 49) (v := .inr (.inr (1, w1))) dX5_copyFrom_48 rfl (fun _ _ _ => rfl) rfl rfl rfl ?_
  refine zf_gfi (pc' := 52) dX5_copyFrom_49 rfl rfl hp1.1 hp1.2.1 rfl ?_
  refine zf_pf (pc' := 55) dX5_copyFrom_52 rfl rfl hp0.1 hp0.2.1 rfl rfl (fun m11 e12 => ?_)
  replace h := h m11 e12
  refine zf_ld (pc' := 56) (v := .inr (.inr (1, w0))) dX5_copyFrom_55 rfl (fun _ _ _ => rfl) rfl rfl rfl ?_
  refine zf_ld (pc' := 57) (v := .inr (.inr (1, w1))) dX5_copyFrom_56 rfl (fun _ _ _ => rfl) rfl rfl rfl ?_
  refine zf_gfi (pc' := 60) dX5_copyFrom_57 rfl rfl hp1.1 hp1.2.1 rfl ?_
  refine zf_pf (pc' := 63) dX5_copyFrom_60 rfl rfl hp0.1 hp0.2.1 rfl rfl (fun m13 e14 => ?_)
  replace h := h m13 e14
  refine zf_ld (pc' := 64) (v := .inr (.inr (1, w0))) dX5_copyFrom_63 rfl (fun _ _ _ => rfl) rfl rfl rfl ?_
  refine zf_ld (pc' := 65) (v := .inr (.inr (1, w1))) dX5_copyFrom_64 rfl (fun _ _ _ => rfl) rfl rfl rfl ?_
  refine zf_gfi (pc' := 68) dX5_copyFrom_65 rfl rfl hp1.1 hp1.2.1 rfl ?_
  refine zf_pf (pc' := 71) dX5_copyFrom_68 rfl rfl hp0.1 hp0.2.1 rfl rfl (fun m15 e16 => ?_)
  replace h := h m15 e16
  refine zf_ld (pc' := 72) (v := .inr (.inr (1, w0))) dX5_copyFrom_71 rfl (fun _ _ _ => rfl) rfl rfl rfl ?_
  refine zf_ld (pc' := 73) (v := .inr (.inr (1, w1))) dX5_copyFrom_72 rfl (fun _ _ _ => rfl) rfl rfl rfl ?_
  refine zf_gfi (pc' := 76) dX5_copyFrom_73 rfl rfl hp1.1 hp1.2.1 rfl ?_
  refine zf_pf (pc' := 79) dX5_copyFrom_76 rfl rfl hp0.1 hp0.2.1 rfl rfl (fun m17 e18 => ?_)
  replace h := h m17 e18
  refine zf_ld (pc' := 80) (v := .inr (.inr (1, w0))) dX5_copyFrom_79 rfl (fun _ _ _ => rfl) rfl rfl rfl ?_
  refine zf_ld (pc' := 81) (v := .inr (.inr (1, w1))) dX5_copyFrom_80 rfl (fun _ _ _ => rfl) rfl rfl rfl ?_
  refine zf_gfi (pc' := 84) dX5_copyFrom_81 rfl rfl hp1.1 hp1.2.1 rfl ?_
  refine zf_pf (pc' := 87) dX5_copyFrom_84 rfl rfl hp0.1 hp0.2.1 rfl rfl (fun m19 e20 => ?_)
  replace h := h m19 e20
  refine zf_ld (pc' := 88) (v := .inr (.inr (1, w0))) dX5_copyFrom_87 rfl (fun _ _ _ => rfl) rfl rfl rfl ?_
  refine zf_ld (pc' := 89) (v := .inr (.inr (1, w1))) dX5_copyFrom_88 rfl (fun _ _ _ => rfl) rfl rfl rfl ?_
  refine zf_gfi (pc' := 92) dX5_copyFrom_89 rfl rfl hp1.1 hp1.2.1 rfl ?_
  refine zf_pf (pc' := 95) dX5_copyFrom_92 rfl rfl hp0.1 hp0.2.1 rfl rfl (fun m21 e22 => ?_)
  replace h := h m21 e22
  refine zf_ld (pc' := 96) (v := .inr (.inr (1, w0))) dX5_copyFrom_95 rfl (fun _ _ _ => rfl) rfl rfl rfl ?_
  refine zf_ld (pc' := 97) (v := .inr (.inr (1, w1))) dX5_copyFrom_96 rfl (fun _ _ _ => rfl) rfl rfl rfl ?_
  refine zf_gfi (pc' := 100) dX5_copyFrom_97 rfl rfl hp1.1 hp1.2.1 rfl ?_
  refine zf_pf (pc' := 103) dX5_copyFrom_100 rfl rfl hp0.1 hp0.2.1 rfl rfl (fun m23 e24 => ?_)
  replace h := h m23 e24
  exact zf_rv dX5_copyFrom_103 rfl h
def zt_49 : zx_MT := (5, yX5_greatestTired, cX5_greatestTired, 3, (some FieldType.int), 0, 0)
theorem zm_49 : zx_m 49 = zt_49 := rfl
theorem dX5_greatestTired_r0 : zdcP cX5_greatestTired 0 [(.iconst 0, 1), (.istore_n 1, 1), (.iconst 0, 1), (.istore_n 2, 1), (.iload_n 2, 1), (.aload_n 0, 1), (.getfield 49, 3), (.getfield 64, 3), (.if_icmp .ge 20, 3), (.iload_n 1, 1), (.aload_n 0, 1), (.getfield 9, 3), (.iload_n 2, 1), (.iaload, 1), (.invokestatic 79, 3), (.istore_n 1, 1)] := zdcA_ok (by decide +kernel)
theorem dX5_greatestTired_0 : decode cX5_greatestTired 0 = .ok (.iconst 0, 1) := dX5_greatestTired_r0.1
theorem dX5_greatestTired_1 : decode cX5_greatestTired 1 = .ok (.istore_n 1, 1) := dX5_greatestTired_r0.2.1
theorem dX5_greatestTired_2 : decode cX5_greatestTired 2 = .ok (.iconst 0, 1) := dX5_greatestTired_r0.2.2.1
theorem dX5_greatestTired_3 : decode cX5_greatestTired 3 = .ok (.istore_n 2, 1) := dX5_greatestTired_r0.2.2.2.1
theorem dX5_greatestTired_4 : decode cX5_greatestTired 4 = .ok (.iload_n 2, 1) := dX5_greatestTired_r0.2.2.2.2.1
theorem dX5_greatestTired_5 : decode cX5_greatestTired 5 = .ok (.aload_n 0, 1) := dX5_greatestTired_r0.2.2.2.2.2.1
theorem dX5_greatestTired_6 : decode cX5_greatestTired 6 = .ok (.getfield 49, 3) := dX5_greatestTired_r0.2.2.2.2.2.2.1
theorem dX5_greatestTired_9 : decode cX5_greatestTired 9 = .ok (.getfield 64, 3) := dX5_greatestTired_r0.2.2.2.2.2.2.2.1
theorem dX5_greatestTired_12 : decode cX5_greatestTired 12 = .ok (.if_icmp .ge 20, 3) := dX5_greatestTired_r0.2.2.2.2.2.2.2.2.1
theorem dX5_greatestTired_15 : decode cX5_greatestTired 15 = .ok (.iload_n 1, 1) := dX5_greatestTired_r0.2.2.2.2.2.2.2.2.2.1
theorem dX5_greatestTired_16 : decode cX5_greatestTired 16 = .ok (.aload_n 0, 1) := dX5_greatestTired_r0.2.2.2.2.2.2.2.2.2.2.1
theorem dX5_greatestTired_17 : decode cX5_greatestTired 17 = .ok (.getfield 9, 3) := dX5_greatestTired_r0.2.2.2.2.2.2.2.2.2.2.2.1
theorem dX5_greatestTired_20 : decode cX5_greatestTired 20 = .ok (.iload_n 2, 1) := dX5_greatestTired_r0.2.2.2.2.2.2.2.2.2.2.2.2.1
theorem dX5_greatestTired_21 : decode cX5_greatestTired 21 = .ok (.iaload, 1) := dX5_greatestTired_r0.2.2.2.2.2.2.2.2.2.2.2.2.2.1
theorem dX5_greatestTired_22 : decode cX5_greatestTired 22 = .ok (.invokestatic 79, 3) := dX5_greatestTired_r0.2.2.2.2.2.2.2.2.2.2.2.2.2.2.1
theorem dX5_greatestTired_25 : decode cX5_greatestTired 25 = .ok (.istore_n 1, 1) := dX5_greatestTired_r0.2.2.2.2.2.2.2.2.2.2.2.2.2.2.2.1
theorem dX5_greatestTired_r26 : zdcP cX5_greatestTired 26 [(.iinc 2 1, 3), (.goto (-25), 3), (.iload_n 1, 1), (.ireturn, 1)] := zdcA_ok (by decide +kernel)
theorem dX5_greatestTired_26 : decode cX5_greatestTired 26 = .ok (.iinc 2 1, 3) := dX5_greatestTired_r26.1
theorem dX5_greatestTired_29 : decode cX5_greatestTired 29 = .ok (.goto (-25), 3) := dX5_greatestTired_r26.2.1
theorem dX5_greatestTired_32 : decode cX5_greatestTired 32 = .ok (.iload_n 1, 1) := dX5_greatestTired_r26.2.2.1
theorem dX5_greatestTired_33 : decode cX5_greatestTired 33 = .ok (.ireturn, 1) := dX5_greatestTired_r26.2.2.2.1
def wq_49_4 (w0 : Nat) (y0 : Nat) (r0 : Nat) (Q : Int32 → zf_Me → Prop) : Nat → Int32 → Int32 → zf_Me → Prop
  | 0, _, _, _ => False
  | n + 1, v1, v2, m => ((v2.toInt ≥ ((m.1 y0 5)).toInt → Q v1 m) ∧ (v2.toInt < ((m.1 y0 5)).toInt → ((0 ≤ (Int32.toInt v2) ∧ (Int32.toInt v2) < (6 : Int)) ∧ wq_49_4 w0 y0 r0 Q n (if v1 < (m.1 r0 (Int32.toInt v2).toNat) then (m.1 r0 (Int32.toInt v2).toNat) else v1) (v2 + 1) m)))
theorem zq_49_4 {d : Nat} (hd : 0 ≤ d) {w0 : Nat} {y0 : Nat} {r0 : Nat} (hp0 : zf_walk w0 y0 r0) {Q : Int32 → zf_Me → Prop} : ∀ (n : Nat) (v1 : Int32) (v2 : Int32) (m : zf_Me), wq_49_4 w0 y0 r0 Q n v1 v2 m → zf_W none 0 0 d zt_49 4 [some (.inr (.inr (1, w0))), some (.inl v1), some (.inl v2)] [] m (zf_I Q) := by
  intro n
  induction n with
  | zero =>
    intro v1 v2 m h
    exact h.elim
  | succ n ih =>
    intro v1 v2 m h
    unfold wq_49_4 at h
    refine zf_ld (pc' := 5) (v := .inl v2) dX5_greatestTired_4 rfl (fun _ _ _ => rfl) rfl rfl rfl ?_
    refine zf_ld (pc' := 6) (v := .inr (.inr (1, w0))) dX5_greatestTired_5 rfl (fun _ _ _ => rfl) rfl rfl rfl ?_
    refine zf_gfr (pc' := 9) (b := y0) dX5_greatestTired_6 rfl rfl hp0.1 hp0.2.1 rfl ?_
    refine zf_gfi (pc' := 12) dX5_greatestTired_9 rfl rfl hp0.2.2.1.1 hp0.2.2.1.2.1 rfl ?_
    refine zf_icmp_ge (tgt := 32) (pc' := 15) dX5_greatestTired_12 rfl rfl (fun g => ?_) (fun g => ?_)
    · replace h := h.1 g
      refine zf_ld (pc' := 33) (v := .inl v1) dX5_greatestTired_32 rfl (fun _ _ _ => rfl) rfl rfl rfl ?_
      exact zf_ri dX5_greatestTired_33 rfl h
    · replace h := h.2 g
      refine zf_ld (pc' := 16) (v := .inl v1) dX5_greatestTired_15 rfl (fun _ _ _ => rfl) rfl rfl rfl ?_
      refine zf_ld (pc' := 17) (v := .inr (.inr (1, w0))) dX5_greatestTired_16 rfl (fun _ _ _ => rfl) rfl rfl rfl ?_
      refine zf_gfr (pc' := 20) (b := r0) dX5_greatestTired_17 rfl rfl hp0.1 hp0.2.1 rfl ?_
      refine zf_ld (pc' := 21) (v := .inl v2) dX5_greatestTired_20 rfl (fun _ _ _ => rfl) rfl rfl rfl ?_
      refine zf_ial (pc' := 22) dX5_greatestTired_21 rfl hp0.2.2.2.1 hp0.2.2.2.2 h.1 rfl ?_
      replace h := h.2
      refine zf_max (pc' := 25) dX5_greatestTired_22 rfl rfl rfl ?_
      refine zf_st (pc' := 26) (L2 := [some (.inr (.inr (1, w0))), some (.inl (if v1 < (m.1 r0 (Int32.toInt v2).toNat) then (m.1 r0 (Int32.toInt v2).toNat) else v1)), some (.inl v2)]) dX5_greatestTired_25 rfl (fun _ _ _ => rfl) rfl rfl rfl rfl rfl rfl ?_
      refine zf_ii (y := (v2 + 1)) (L2 := [some (.inr (.inr (1, w0))), some (.inl (if v1 < (m.1 r0 (Int32.toInt v2).toNat) then (m.1 r0 (Int32.toInt v2).toNat) else v1)), some (.inl (v2 + 1))]) (pc' := 29) dX5_greatestTired_26 rfl rfl rfl rfl rfl ?_
      refine zf_goto (tgt := 4) dX5_greatestTired_29 rfl ?_
      exact zf_lo (ih _ _ _ h) ⟨rfl, rfl, rfl, trivial⟩
def wp_49 (w0 : Nat) (y0 : Nat) (r0 : Nat) (m : zf_Me) (Q : Int32 → zf_Me → Prop) : Prop := (∃ n4, wq_49_4 w0 y0 r0 Q n4 0 0 m)
theorem zr_49 {d : Nat} (hd : 0 ≤ d) {w0 : Nat} {y0 : Nat} {r0 : Nat} (hp0 : zf_walk w0 y0 r0) {Q : Int32 → zf_Me → Prop} {m : zf_Me} (h : wp_49 w0 y0 r0 m Q) : zf_M d 49 [.inr (.inr (1, w0))] m (zf_I Q) := by
  unfold wp_49 at h
  refine zf_M_of (Nat.le_of_ble_eq_true rfl) zm_49 (L := [some (.inr (.inr (1, w0))), none, none]) rfl ?_
  refine zf_ic (v := 0) (pc' := 1) dX5_greatestTired_0 rfl rfl ?_
  refine zf_st (pc' := 2) (L2 := [some (.inr (.inr (1, w0))), some (.inl 0), none]) dX5_greatestTired_1 rfl (fun _ _ _ => rfl) rfl rfl rfl rfl rfl rfl ?_
  refine zf_ic (v := 0) (pc' := 3) dX5_greatestTired_2 rfl rfl ?_
  refine zf_st (pc' := 4) (L2 := [some (.inr (.inr (1, w0))), some (.inl 0), some (.inl 0)]) dX5_greatestTired_3 rfl (fun _ _ _ => rfl) rfl rfl rfl rfl rfl rfl ?_
  obtain ⟨n4, h⟩ := h
  exact zf_lo (zq_49_4 (by omega) hp0 n4 _ _ _ h) ⟨rfl, rfl, rfl, trivial⟩
def zt_7 : zx_MT := (1, yX1_begin, cX1_begin, 2, none, 1, 0)
theorem zm_7 : zx_m 7 = zt_7 := rfl
theorem dX1_begin_r0 : zdcP cX1_begin 0 [(.aload_n 0, 1), (.getfield 26, 3), (.aload_n 1, 1), (.invokevirtual 30, 3), (.aload_n 0, 1), (.iconst 0, 1), (.putfield 9, 3), (.aload_n 0, 1), (.iconst 0, 1), (.putfield 15, 3), (.aload_n 0, 1), (.aload_n 0, 1), (.getfield 26, 3), (.invokevirtual 34, 3), (.putfield 18, 3), (.return_, 1)] := zdcA_ok (by decide +kernel)
theorem dX1_begin_0 : decode cX1_begin 0 = .ok (.aload_n 0, 1) := dX1_begin_r0.1
theorem dX1_begin_1 : decode cX1_begin 1 = .ok (.getfield 26, 3) := dX1_begin_r0.2.1
theorem dX1_begin_4 : decode cX1_begin 4 = .ok (.aload_n 1, 1) := dX1_begin_r0.2.2.1
theorem dX1_begin_5 : decode cX1_begin 5 = .ok (.invokevirtual 30, 3) := dX1_begin_r0.2.2.2.1
theorem dX1_begin_8 : decode cX1_begin 8 = .ok (.aload_n 0, 1) := dX1_begin_r0.2.2.2.2.1
theorem dX1_begin_9 : decode cX1_begin 9 = .ok (.iconst 0, 1) := dX1_begin_r0.2.2.2.2.2.1
theorem dX1_begin_10 : decode cX1_begin 10 = .ok (.putfield 9, 3) := dX1_begin_r0.2.2.2.2.2.2.1
theorem dX1_begin_13 : decode cX1_begin 13 = .ok (.aload_n 0, 1) := dX1_begin_r0.2.2.2.2.2.2.2.1
theorem dX1_begin_14 : decode cX1_begin 14 = .ok (.iconst 0, 1) := dX1_begin_r0.2.2.2.2.2.2.2.2.1
theorem dX1_begin_15 : decode cX1_begin 15 = .ok (.putfield 15, 3) := dX1_begin_r0.2.2.2.2.2.2.2.2.2.1
theorem dX1_begin_18 : decode cX1_begin 18 = .ok (.aload_n 0, 1) := dX1_begin_r0.2.2.2.2.2.2.2.2.2.2.1
theorem dX1_begin_19 : decode cX1_begin 19 = .ok (.aload_n 0, 1) := dX1_begin_r0.2.2.2.2.2.2.2.2.2.2.2.1
theorem dX1_begin_20 : decode cX1_begin 20 = .ok (.getfield 26, 3) := dX1_begin_r0.2.2.2.2.2.2.2.2.2.2.2.2.1
theorem dX1_begin_23 : decode cX1_begin 23 = .ok (.invokevirtual 34, 3) := dX1_begin_r0.2.2.2.2.2.2.2.2.2.2.2.2.2.1
theorem dX1_begin_26 : decode cX1_begin 26 = .ok (.putfield 18, 3) := dX1_begin_r0.2.2.2.2.2.2.2.2.2.2.2.2.2.2.1
theorem dX1_begin_29 : decode cX1_begin 29 = .ok (.return_, 1) := dX1_begin_r0.2.2.2.2.2.2.2.2.2.2.2.2.2.2.2.1
def wp_7 (w1 : Nat) (y1 : Nat) (r1 : Nat) (m : zf_Me) (Q : zf_Me → Prop) : Prop := wp_43 19 3 20 w1 y1 r1 m (fun m2 => (∀ m3, m3 = zf_u m2 18 1 0 → (∀ m5, m5 = zf_u m3 18 2 0 → wp_49 19 3 20 m5 (fun x7 m8 => (∀ m9, m9 = zf_u m8 18 3 x7 → Q m9)))))
theorem zr_7 {d : Nat} (hd : 1 ≤ d) {w1 : Nat} {y1 : Nat} {r1 : Nat} (hp1 : zf_walk w1 y1 r1) {Q : zf_Me → Prop} {m : zf_Me} (h : wp_7 w1 y1 r1 m Q) : zf_M d 7 [.inr (.inr (1, 18)), .inr (.inr (1, w1))] m (zf_O Q) := by
  obtain ⟨e, rfl⟩ : ∃ z, d = z + 1 := ⟨d - 1, by omega⟩
  unfold wp_7 at h
  refine zf_M_of (Nat.le_of_ble_eq_true rfl) zm_7 (L := [some (.inr (.inr (1, 18))), some (.inr (.inr (1, w1)))]) rfl ?_
  refine zf_ld (pc' := 1) (v := .inr (.inr (1, 18))) dX1_begin_0 rfl (fun _ _ _ => rfl) rfl rfl rfl ?_
  refine zf_gfr (pc' := 4) (b := 19) dX1_begin_1 rfl rfl (by decide) rfl rfl ?_
  refine zf_ld (pc' := 5) (v := .inr (.inr (1, w1))) dX1_begin_4 rfl (fun _ _ _ => rfl) rfl rfl rfl ?_
  refine zf_iv (k := 43) (pc' := 8) (r := []) dX1_begin_5 rfl rfl rfl rfl zf_walk19.1 zf_walk19.2.1 rfl rfl (zr_43 (by omega) zf_walk19 hp1 h) (zf_kO (fun m2 h => ?_))
  refine zf_ld (pc' := 9) (v := .inr (.inr (1, 18))) dX1_begin_8 rfl (fun _ _ _ => rfl) rfl rfl rfl ?_
  refine zf_ic (v := 0) (pc' := 10) dX1_begin_9 rfl rfl ?_
  refine zf_pf (pc' := 13) dX1_begin_10 rfl rfl (by decide) rfl rfl rfl (fun m3 e4 => ?_)
  replace h := h m3 e4
  refine zf_ld (pc' := 14) (v := .inr (.inr (1, 18))) dX1_begin_13 rfl (fun _ _ _ => rfl) rfl rfl rfl ?_
  refine zf_ic (v := 0) (pc' := 15) dX1_begin_14 rfl rfl ?_
  refine zf_pf (pc' := 18) dX1_begin_15 rfl rfl (by decide) rfl rfl rfl (fun m5 e6 => ?_)
  replace h := h m5 e6
  refine zf_ld (pc' := 19) (v := .inr (.inr (1, 18))) dX1_begin_18 rfl (fun _ _ _ => rfl) rfl rfl rfl ?_
  refine zf_ld (pc' := 20) (v := .inr (.inr (1, 18))) dX1_begin_19 rfl (fun _ _ _ => rfl) rfl rfl rfl ?_
  refine zf_gfr (pc' := 23) (b := 19) dX1_begin_20 rfl rfl (by decide) rfl rfl ?_
  refine zf_iv (k := 49) (pc' := 26) (r := [.inr (.inr (1, 18))]) dX1_begin_23 rfl rfl rfl rfl zf_walk19.1 zf_walk19.2.1 rfl rfl (zr_49 (by omega) zf_walk19 h) (zf_kI (fun x7 m8 h => ?_))
  refine zf_pf (pc' := 29) dX1_begin_26 rfl rfl (by decide) rfl rfl rfl (fun m9 e10 => ?_)
  replace h := h m9 e10
  exact zf_rv dX1_begin_29 rfl h
def zt_47 : zx_MT := (5, yX5_atEnd, cX5_atEnd, 1, (some FieldType.boolean), 0, 0)
theorem zm_47 : zx_m 47 = zt_47 := rfl
theorem dX5_atEnd_r0 : zdcP cX5_atEnd 0 [(.aload_n 0, 1), (.getfield 40, 3), (.aload_n 0, 1), (.getfield 49, 3), (.getfield 76, 3), (.if_icmp .lt 7, 3), (.iconst 1, 1), (.goto 4, 3), (.iconst 0, 1), (.ireturn, 1)] := zdcA_ok (by decide +kernel)
theorem dX5_atEnd_0 : decode cX5_atEnd 0 = .ok (.aload_n 0, 1) := dX5_atEnd_r0.1
theorem dX5_atEnd_1 : decode cX5_atEnd 1 = .ok (.getfield 40, 3) := dX5_atEnd_r0.2.1
theorem dX5_atEnd_4 : decode cX5_atEnd 4 = .ok (.aload_n 0, 1) := dX5_atEnd_r0.2.2.1
theorem dX5_atEnd_5 : decode cX5_atEnd 5 = .ok (.getfield 49, 3) := dX5_atEnd_r0.2.2.2.1
theorem dX5_atEnd_8 : decode cX5_atEnd 8 = .ok (.getfield 76, 3) := dX5_atEnd_r0.2.2.2.2.1
theorem dX5_atEnd_11 : decode cX5_atEnd 11 = .ok (.if_icmp .lt 7, 3) := dX5_atEnd_r0.2.2.2.2.2.1
theorem dX5_atEnd_14 : decode cX5_atEnd 14 = .ok (.iconst 1, 1) := dX5_atEnd_r0.2.2.2.2.2.2.1
theorem dX5_atEnd_15 : decode cX5_atEnd 15 = .ok (.goto 4, 3) := dX5_atEnd_r0.2.2.2.2.2.2.2.1
theorem dX5_atEnd_18 : decode cX5_atEnd 18 = .ok (.iconst 0, 1) := dX5_atEnd_r0.2.2.2.2.2.2.2.2.1
theorem dX5_atEnd_19 : decode cX5_atEnd 19 = .ok (.ireturn, 1) := dX5_atEnd_r0.2.2.2.2.2.2.2.2.2.1
def wp_47 (w0 : Nat) (y0 : Nat) (r0 : Nat) (m : zf_Me) (Q : Bool → zf_Me → Prop) : Prop := ((((m.1 w0 10)).toInt < ((m.1 y0 4)).toInt → Q false m) ∧ (((m.1 w0 10)).toInt ≥ ((m.1 y0 4)).toInt → Q true m))
theorem zr_47 {d : Nat} (hd : 0 ≤ d) {w0 : Nat} {y0 : Nat} {r0 : Nat} (hp0 : zf_walk w0 y0 r0) {Q : Bool → zf_Me → Prop} {m : zf_Me} (h : wp_47 w0 y0 r0 m Q) : zf_M d 47 [.inr (.inr (1, w0))] m (zf_B Q) := by
  unfold wp_47 at h
  refine zf_M_of (Nat.le_of_ble_eq_true rfl) zm_47 (L := [some (.inr (.inr (1, w0)))]) rfl ?_
  refine zf_ld (pc' := 1) (v := .inr (.inr (1, w0))) dX5_atEnd_0 rfl (fun _ _ _ => rfl) rfl rfl rfl ?_
  refine zf_gfi (pc' := 4) dX5_atEnd_1 rfl rfl hp0.1 hp0.2.1 rfl ?_
  refine zf_ld (pc' := 5) (v := .inr (.inr (1, w0))) dX5_atEnd_4 rfl (fun _ _ _ => rfl) rfl rfl rfl ?_
  refine zf_gfr (pc' := 8) (b := y0) dX5_atEnd_5 rfl rfl hp0.1 hp0.2.1 rfl ?_
  refine zf_gfi (pc' := 11) dX5_atEnd_8 rfl rfl hp0.2.2.1.1 hp0.2.2.1.2.1 rfl ?_
  refine zf_icmp_lt (tgt := 18) (pc' := 14) dX5_atEnd_11 rfl rfl (fun g => ?_) (fun g => ?_)
  · replace h := h.1 g
    refine zf_ic (v := 0) (pc' := 19) dX5_atEnd_18 rfl rfl ?_
    exact zf_rb (b := false) dX5_atEnd_19 rfl h
  · replace h := h.2 g
    refine zf_ic (v := 1) (pc' := 15) dX5_atEnd_14 rfl rfl ?_
    refine zf_goto (tgt := 19) dX5_atEnd_15 rfl ?_
    exact zf_rb (b := true) dX5_atEnd_19 rfl h
def zt_48 : zx_MT := (5, yX5_asleep, cX5_asleep, 1, (some FieldType.boolean), 0, 0)
theorem zm_48 : zx_m 48 = zt_48 := rfl
theorem dX5_asleep_r0 : zdcP cX5_asleep 0 [(.aload_n 0, 1), (.getfield 28, 3), (.aload_n 0, 1), (.getfield 25, 3), (.if_icmp .lt 7, 3), (.iconst 1, 1), (.goto 4, 3), (.iconst 0, 1), (.ireturn, 1)] := zdcA_ok (by decide +kernel)
theorem dX5_asleep_0 : decode cX5_asleep 0 = .ok (.aload_n 0, 1) := dX5_asleep_r0.1
theorem dX5_asleep_1 : decode cX5_asleep 1 = .ok (.getfield 28, 3) := dX5_asleep_r0.2.1
theorem dX5_asleep_4 : decode cX5_asleep 4 = .ok (.aload_n 0, 1) := dX5_asleep_r0.2.2.1
theorem dX5_asleep_5 : decode cX5_asleep 5 = .ok (.getfield 25, 3) := dX5_asleep_r0.2.2.2.1
theorem dX5_asleep_8 : decode cX5_asleep 8 = .ok (.if_icmp .lt 7, 3) := dX5_asleep_r0.2.2.2.2.1
theorem dX5_asleep_11 : decode cX5_asleep 11 = .ok (.iconst 1, 1) := dX5_asleep_r0.2.2.2.2.2.1
theorem dX5_asleep_12 : decode cX5_asleep 12 = .ok (.goto 4, 3) := dX5_asleep_r0.2.2.2.2.2.2.1
theorem dX5_asleep_15 : decode cX5_asleep 15 = .ok (.iconst 0, 1) := dX5_asleep_r0.2.2.2.2.2.2.2.1
theorem dX5_asleep_16 : decode cX5_asleep 16 = .ok (.ireturn, 1) := dX5_asleep_r0.2.2.2.2.2.2.2.2.1
def wp_48 (w0 : Nat) (y0 : Nat) (r0 : Nat) (m : zf_Me) (Q : Bool → zf_Me → Prop) : Prop := ((((m.1 w0 6)).toInt < ((m.1 w0 5)).toInt → Q false m) ∧ (((m.1 w0 6)).toInt ≥ ((m.1 w0 5)).toInt → Q true m))
theorem zr_48 {d : Nat} (hd : 0 ≤ d) {w0 : Nat} {y0 : Nat} {r0 : Nat} (hp0 : zf_walk w0 y0 r0) {Q : Bool → zf_Me → Prop} {m : zf_Me} (h : wp_48 w0 y0 r0 m Q) : zf_M d 48 [.inr (.inr (1, w0))] m (zf_B Q) := by
  unfold wp_48 at h
  refine zf_M_of (Nat.le_of_ble_eq_true rfl) zm_48 (L := [some (.inr (.inr (1, w0)))]) rfl ?_
  refine zf_ld (pc' := 1) (v := .inr (.inr (1, w0))) dX5_asleep_0 rfl (fun _ _ _ => rfl) rfl rfl rfl ?_
  refine zf_gfi (pc' := 4) dX5_asleep_1 rfl rfl hp0.1 hp0.2.1 rfl ?_
  refine zf_ld (pc' := 5) (v := .inr (.inr (1, w0))) dX5_asleep_4 rfl (fun _ _ _ => rfl) rfl rfl rfl ?_
  refine zf_gfi (pc' := 8) dX5_asleep_5 rfl rfl hp0.1 hp0.2.1 rfl ?_
  refine zf_icmp_lt (tgt := 15) (pc' := 11) dX5_asleep_8 rfl rfl (fun g => ?_) (fun g => ?_)
  · replace h := h.1 g
    refine zf_ic (v := 0) (pc' := 16) dX5_asleep_15 rfl rfl ?_
    exact zf_rb (b := false) dX5_asleep_16 rfl h
  · replace h := h.2 g
    refine zf_ic (v := 1) (pc' := 12) dX5_asleep_11 rfl rfl ?_
    refine zf_goto (tgt := 16) dX5_asleep_12 rfl ?_
    exact zf_rb (b := true) dX5_asleep_16 rfl h
def zt_54 : zx_MT := (5, yX5_mayWalk, cX5_mayWalk, 1, (some FieldType.boolean), 0, 0)
theorem zm_54 : zx_m 54 = zt_54 := rfl
theorem dX5_mayWalk_r0 : zdcP cX5_mayWalk 0 [(.aload_n 0, 1), (.invokevirtual 99, 3), (.ifCond .ne 14, 3), (.aload_n 0, 1), (.invokevirtual 105, 3), (.ifCond .ne 7, 3), (.iconst 1, 1), (.goto 4, 3), (.iconst 0, 1), (.ireturn, 1)] := zdcA_ok (by decide +kernel)
theorem dX5_mayWalk_0 : decode cX5_mayWalk 0 = .ok (.aload_n 0, 1) := dX5_mayWalk_r0.1
theorem dX5_mayWalk_1 : decode cX5_mayWalk 1 = .ok (.invokevirtual 99, 3) := dX5_mayWalk_r0.2.1
theorem dX5_mayWalk_4 : decode cX5_mayWalk 4 = .ok (.ifCond .ne 14, 3) := dX5_mayWalk_r0.2.2.1
theorem dX5_mayWalk_7 : decode cX5_mayWalk 7 = .ok (.aload_n 0, 1) := dX5_mayWalk_r0.2.2.2.1
theorem dX5_mayWalk_8 : decode cX5_mayWalk 8 = .ok (.invokevirtual 105, 3) := dX5_mayWalk_r0.2.2.2.2.1
theorem dX5_mayWalk_11 : decode cX5_mayWalk 11 = .ok (.ifCond .ne 7, 3) := dX5_mayWalk_r0.2.2.2.2.2.1
theorem dX5_mayWalk_14 : decode cX5_mayWalk 14 = .ok (.iconst 1, 1) := dX5_mayWalk_r0.2.2.2.2.2.2.1
theorem dX5_mayWalk_15 : decode cX5_mayWalk 15 = .ok (.goto 4, 3) := dX5_mayWalk_r0.2.2.2.2.2.2.2.1
theorem dX5_mayWalk_18 : decode cX5_mayWalk 18 = .ok (.iconst 0, 1) := dX5_mayWalk_r0.2.2.2.2.2.2.2.2.1
theorem dX5_mayWalk_19 : decode cX5_mayWalk 19 = .ok (.ireturn, 1) := dX5_mayWalk_r0.2.2.2.2.2.2.2.2.2.1
def wp_54 (w0 : Nat) (y0 : Nat) (r0 : Nat) (m : zf_Me) (Q : Bool → zf_Me → Prop) : Prop := wp_47 w0 y0 r0 m (fun b1 m2 => ((b1 = true → Q false m2) ∧ (b1 = false → wp_48 w0 y0 r0 m2 (fun b3 m4 => ((b3 = true → Q false m4) ∧ (b3 = false → Q true m4))))))
theorem zr_54 {d : Nat} (hd : 1 ≤ d) {w0 : Nat} {y0 : Nat} {r0 : Nat} (hp0 : zf_walk w0 y0 r0) {Q : Bool → zf_Me → Prop} {m : zf_Me} (h : wp_54 w0 y0 r0 m Q) : zf_M d 54 [.inr (.inr (1, w0))] m (zf_B Q) := by
  obtain ⟨e, rfl⟩ : ∃ z, d = z + 1 := ⟨d - 1, by omega⟩
  unfold wp_54 at h
  refine zf_M_of (Nat.le_of_ble_eq_true rfl) zm_54 (L := [some (.inr (.inr (1, w0)))]) rfl ?_
  refine zf_ld (pc' := 1) (v := .inr (.inr (1, w0))) dX5_mayWalk_0 rfl (fun _ _ _ => rfl) rfl rfl rfl ?_
  refine zf_iv (k := 47) (pc' := 4) (r := []) dX5_mayWalk_1 rfl rfl rfl rfl hp0.1 hp0.2.1 rfl rfl (zr_47 (by omega) hp0 h) (zf_kB (fun b1 m2 h => ?_))
  refine zf_ib_ne (tgt := 18) (pc' := 7) dX5_mayWalk_4 rfl rfl (fun g => ?_) (fun g => ?_)
  · replace h := h.1 g
    refine zf_ic (v := 0) (pc' := 19) dX5_mayWalk_18 rfl rfl ?_
    exact zf_rb (b := false) dX5_mayWalk_19 rfl h
  · replace h := h.2 g
    refine zf_ld (pc' := 8) (v := .inr (.inr (1, w0))) dX5_mayWalk_7 rfl (fun _ _ _ => rfl) rfl rfl rfl ?_
    refine zf_iv (k := 48) (pc' := 11) (r := []) dX5_mayWalk_8 rfl rfl rfl rfl hp0.1 hp0.2.1 rfl rfl (zr_48 (by omega) hp0 h) (zf_kB (fun b3 m4 h => ?_))
    refine zf_ib_ne (tgt := 18) (pc' := 14) dX5_mayWalk_11 rfl rfl (fun g => ?_) (fun g => ?_)
    · replace h := h.1 g
      refine zf_ic (v := 0) (pc' := 19) dX5_mayWalk_18 rfl rfl ?_
      exact zf_rb (b := false) dX5_mayWalk_19 rfl h
    · replace h := h.2 g
      refine zf_ic (v := 1) (pc' := 15) dX5_mayWalk_14 rfl rfl ?_
      refine zf_goto (tgt := 19) dX5_mayWalk_15 rfl ?_
      exact zf_rb (b := true) dX5_mayWalk_19 rfl h
