section
/-! part 24: methods 1..: laid by wip/flat/dec.py -/
def zt_1 : zx_MT := (0, yX0_forget, cX0_forget, 1, none, 0, 0)
theorem zm_1 : zx_m 1 = zt_1 := rfl
theorem dX0_forget_r0 : zdcP cX0_forget 0 [(.aload_n 0, 1), (.iconst 0, 1), (.putfield 15, 3), (.return_, 1)] := zdcA_ok (by decide +kernel)
theorem dX0_forget_0 : decode cX0_forget 0 = .ok (.aload_n 0, 1) := dX0_forget_r0.1
theorem dX0_forget_1 : decode cX0_forget 1 = .ok (.iconst 0, 1) := dX0_forget_r0.2.1
theorem dX0_forget_2 : decode cX0_forget 2 = .ok (.putfield 15, 3) := dX0_forget_r0.2.2.1
theorem dX0_forget_5 : decode cX0_forget 5 = .ok (.return_, 1) := dX0_forget_r0.2.2.2.1
def wp_1 (m : zf_Me) (Q : zf_Me → Prop) : Prop := (∀ m1, m1 = zf_u m 44 1 0 → Q m1)
theorem zr_1 {d : Nat} (hd : 0 ≤ d) {Q : zf_Me → Prop} {m : zf_Me} (h : wp_1 m Q) : zf_M d 1 [.inr (.inr (1, 44))] m (zf_O Q) := by
  unfold wp_1 at h
  refine zf_M_of (Nat.le_of_ble_eq_true rfl) zm_1 (L := [some (.inr (.inr (1, 44)))]) rfl ?_
  refine zf_ld (pc' := 1) (v := .inr (.inr (1, 44))) dX0_forget_0 rfl (fun _ _ _ => rfl) rfl rfl rfl ?_
  refine zf_ic (v := 0) (pc' := 2) dX0_forget_1 rfl rfl ?_
  refine zf_pf (pc' := 5) dX0_forget_2 rfl rfl (by decide) rfl rfl rfl (fun m1 e2 => ?_)
  replace h := h m1 e2
  exact zf_rv dX0_forget_5 rfl h
def zt_115 : zx_MT := (7, yX7_isKind, cX7_isKind, 1, (some FieldType.boolean), 1, 1)
theorem zm_115 : zx_m 115 = zt_115 := rfl
theorem dX7_isKind_r0 : zdcP cX7_isKind 0 [(.iload_n 0, 1), (.ifCond .lt 13, 3), (.iload_n 0, 1), (.bipush 7, 2), (.if_icmp .ge 7, 3), (.iconst 1, 1), (.goto 4, 3), (.iconst 0, 1), (.ireturn, 1)] := zdcA_ok (by decide +kernel)
theorem dX7_isKind_0 : decode cX7_isKind 0 = .ok (.iload_n 0, 1) := dX7_isKind_r0.1
theorem dX7_isKind_1 : decode cX7_isKind 1 = .ok (.ifCond .lt 13, 3) := dX7_isKind_r0.2.1
theorem dX7_isKind_4 : decode cX7_isKind 4 = .ok (.iload_n 0, 1) := dX7_isKind_r0.2.2.1
theorem dX7_isKind_5 : decode cX7_isKind 5 = .ok (.bipush 7, 2) := dX7_isKind_r0.2.2.2.1
theorem dX7_isKind_7 : decode cX7_isKind 7 = .ok (.if_icmp .ge 7, 3) := dX7_isKind_r0.2.2.2.2.1
theorem dX7_isKind_10 : decode cX7_isKind 10 = .ok (.iconst 1, 1) := dX7_isKind_r0.2.2.2.2.2.1
theorem dX7_isKind_11 : decode cX7_isKind 11 = .ok (.goto 4, 3) := dX7_isKind_r0.2.2.2.2.2.2.1
theorem dX7_isKind_14 : decode cX7_isKind 14 = .ok (.iconst 0, 1) := dX7_isKind_r0.2.2.2.2.2.2.2.1
theorem dX7_isKind_15 : decode cX7_isKind 15 = .ok (.ireturn, 1) := dX7_isKind_r0.2.2.2.2.2.2.2.2.1
def wp_115 (v0 : Int32) (m : zf_Me) (Q : Bool → zf_Me → Prop) : Prop := ((v0.toInt < 0 → Q false m) ∧ (v0.toInt ≥ 0 → ((v0.toInt ≥ 7 → Q false m) ∧ (v0.toInt < 7 → Q true m))))
theorem zr_115 {d : Nat} (hd : 0 ≤ d) {v0 : Int32} {Q : Bool → zf_Me → Prop} {m : zf_Me} (h : wp_115 v0 m Q) : zf_M d 115 [.inl v0] m (zf_B Q) := by
  unfold wp_115 at h
  refine zf_M_of (Nat.le_of_ble_eq_true rfl) zm_115 (L := [some (.inl v0)]) rfl ?_
  refine zf_ld (pc' := 1) (v := .inl v0) dX7_isKind_0 rfl (fun _ _ _ => rfl) rfl rfl rfl ?_
  refine zf_if_lt (tgt := 14) (pc' := 4) dX7_isKind_1 rfl rfl (fun g => ?_) (fun g => ?_)
  · replace h := h.1 g
    refine zf_ic (v := 0) (pc' := 15) dX7_isKind_14 rfl rfl ?_
    exact zf_rb (b := false) dX7_isKind_15 rfl h
  · replace h := h.2 g
    refine zf_ld (pc' := 5) (v := .inl v0) dX7_isKind_4 rfl (fun _ _ _ => rfl) rfl rfl rfl ?_
    refine zf_bi (v := 7) (pc' := 7) dX7_isKind_5 rfl rfl ?_
    refine zf_icmp_ge (tgt := 14) (pc' := 10) dX7_isKind_7 rfl rfl (fun g => ?_) (fun g => ?_)
    · replace h := h.1 g
      refine zf_ic (v := 0) (pc' := 15) dX7_isKind_14 rfl rfl ?_
      exact zf_rb (b := false) dX7_isKind_15 rfl h
    · replace h := h.2 g
      refine zf_ic (v := 1) (pc' := 11) dX7_isKind_10 rfl rfl ?_
      refine zf_goto (tgt := 15) dX7_isKind_11 rfl ?_
      exact zf_rb (b := true) dX7_isKind_15 rfl h
def zt_5 : zx_MT := (0, yX0_runBody, cX0_runBody, 5, (some FieldType.int), 4, 0)
theorem zm_5 : zx_m 5 = zt_5 := rfl
theorem dX0_runBody_0 : decode cX0_runBody 0 = .ok (.iload_n 1, 1) := zdc_ok (by decide +kernel)
theorem dX0_runBody_1 : decode cX0_runBody 1 = .ok (.lookupswitch 233 #[(10, 91), (11, 98), (12, 113), (20, 144), (30, 159), (40, 171), (50, 183), (51, 194), (60, 209), (70, 221)], 91) := by decide +kernel
theorem dX0_runBody_r92 : zdcP cX0_runBody 92 [(.iload_n 3, 1), (.aload_n 0, 1), (.getfield 22, 3), (.iadd, 1), (.ireturn, 1), (.aload_n 0, 1), (.aload_n 0, 1), (.getfield 19, 3), (.iconst 0, 1), (.iload_n 3, 1), (.iload 4, 2), (.invokevirtual 39, 3), (.iconst 2, 1), (.imul, 1), (.ireturn, 1), (.aload_n 0, 1)] := zdcA_ok (by decide +kernel)
theorem dX0_runBody_92 : decode cX0_runBody 92 = .ok (.iload_n 3, 1) := dX0_runBody_r92.1
theorem dX0_runBody_93 : decode cX0_runBody 93 = .ok (.aload_n 0, 1) := dX0_runBody_r92.2.1
theorem dX0_runBody_94 : decode cX0_runBody 94 = .ok (.getfield 22, 3) := dX0_runBody_r92.2.2.1
theorem dX0_runBody_97 : decode cX0_runBody 97 = .ok (.iadd, 1) := dX0_runBody_r92.2.2.2.1
theorem dX0_runBody_98 : decode cX0_runBody 98 = .ok (.ireturn, 1) := dX0_runBody_r92.2.2.2.2.1
theorem dX0_runBody_99 : decode cX0_runBody 99 = .ok (.aload_n 0, 1) := dX0_runBody_r92.2.2.2.2.2.1
theorem dX0_runBody_100 : decode cX0_runBody 100 = .ok (.aload_n 0, 1) := dX0_runBody_r92.2.2.2.2.2.2.1
theorem dX0_runBody_101 : decode cX0_runBody 101 = .ok (.getfield 19, 3) := dX0_runBody_r92.2.2.2.2.2.2.2.1
theorem dX0_runBody_104 : decode cX0_runBody 104 = .ok (.iconst 0, 1) := dX0_runBody_r92.2.2.2.2.2.2.2.2.1
theorem dX0_runBody_105 : decode cX0_runBody 105 = .ok (.iload_n 3, 1) := dX0_runBody_r92.2.2.2.2.2.2.2.2.2.1
theorem dX0_runBody_106 : decode cX0_runBody 106 = .ok (.iload 4, 2) := dX0_runBody_r92.2.2.2.2.2.2.2.2.2.2.1
theorem dX0_runBody_108 : decode cX0_runBody 108 = .ok (.invokevirtual 39, 3) := dX0_runBody_r92.2.2.2.2.2.2.2.2.2.2.2.1
theorem dX0_runBody_111 : decode cX0_runBody 111 = .ok (.iconst 2, 1) := dX0_runBody_r92.2.2.2.2.2.2.2.2.2.2.2.2.1
theorem dX0_runBody_112 : decode cX0_runBody 112 = .ok (.imul, 1) := dX0_runBody_r92.2.2.2.2.2.2.2.2.2.2.2.2.2.1
theorem dX0_runBody_113 : decode cX0_runBody 113 = .ok (.ireturn, 1) := dX0_runBody_r92.2.2.2.2.2.2.2.2.2.2.2.2.2.2.1
theorem dX0_runBody_114 : decode cX0_runBody 114 = .ok (.aload_n 0, 1) := dX0_runBody_r92.2.2.2.2.2.2.2.2.2.2.2.2.2.2.2.1
theorem dX0_runBody_r115 : zdcP cX0_runBody 115 [(.aload_n 0, 1), (.getfield 19, 3), (.iconst 1, 1), (.iload_n 3, 1), (.iload 4, 2), (.invokevirtual 39, 3), (.aload_n 0, 1), (.aload_n 0, 1), (.getfield 19, 3), (.iconst 0, 1), (.iload_n 3, 1), (.aload_n 0, 1), (.getfield 25, 3), (.isub, 1), (.iload 4, 2), (.invokevirtual 39, 3)] := zdcA_ok (by decide +kernel)
theorem dX0_runBody_115 : decode cX0_runBody 115 = .ok (.aload_n 0, 1) := dX0_runBody_r115.1
theorem dX0_runBody_116 : decode cX0_runBody 116 = .ok (.getfield 19, 3) := dX0_runBody_r115.2.1
theorem dX0_runBody_119 : decode cX0_runBody 119 = .ok (.iconst 1, 1) := dX0_runBody_r115.2.2.1
theorem dX0_runBody_120 : decode cX0_runBody 120 = .ok (.iload_n 3, 1) := dX0_runBody_r115.2.2.2.1
theorem dX0_runBody_121 : decode cX0_runBody 121 = .ok (.iload 4, 2) := dX0_runBody_r115.2.2.2.2.1
theorem dX0_runBody_123 : decode cX0_runBody 123 = .ok (.invokevirtual 39, 3) := dX0_runBody_r115.2.2.2.2.2.1
theorem dX0_runBody_126 : decode cX0_runBody 126 = .ok (.aload_n 0, 1) := dX0_runBody_r115.2.2.2.2.2.2.1
theorem dX0_runBody_127 : decode cX0_runBody 127 = .ok (.aload_n 0, 1) := dX0_runBody_r115.2.2.2.2.2.2.2.1
theorem dX0_runBody_128 : decode cX0_runBody 128 = .ok (.getfield 19, 3) := dX0_runBody_r115.2.2.2.2.2.2.2.2.1
theorem dX0_runBody_131 : decode cX0_runBody 131 = .ok (.iconst 0, 1) := dX0_runBody_r115.2.2.2.2.2.2.2.2.2.1
theorem dX0_runBody_132 : decode cX0_runBody 132 = .ok (.iload_n 3, 1) := dX0_runBody_r115.2.2.2.2.2.2.2.2.2.2.1
theorem dX0_runBody_133 : decode cX0_runBody 133 = .ok (.aload_n 0, 1) := dX0_runBody_r115.2.2.2.2.2.2.2.2.2.2.2.1
theorem dX0_runBody_134 : decode cX0_runBody 134 = .ok (.getfield 25, 3) := dX0_runBody_r115.2.2.2.2.2.2.2.2.2.2.2.2.1
theorem dX0_runBody_137 : decode cX0_runBody 137 = .ok (.isub, 1) := dX0_runBody_r115.2.2.2.2.2.2.2.2.2.2.2.2.2.1
theorem dX0_runBody_138 : decode cX0_runBody 138 = .ok (.iload 4, 2) := dX0_runBody_r115.2.2.2.2.2.2.2.2.2.2.2.2.2.2.1
theorem dX0_runBody_140 : decode cX0_runBody 140 = .ok (.invokevirtual 39, 3) := dX0_runBody_r115.2.2.2.2.2.2.2.2.2.2.2.2.2.2.2.1
theorem dX0_runBody_r143 : zdcP cX0_runBody 143 [(.ixor, 1), (.ireturn, 1), (.aload_n 0, 1), (.iload_n 2, 1), (.iconst 0, 1), (.iload_n 3, 1), (.iload 4, 2), (.invokevirtual 39, 3), (.aload_n 0, 1), (.getfield 25, 3), (.iadd, 1), (.ireturn, 1), (.aload_n 0, 1), (.iload_n 2, 1), (.iconst 1, 1), (.iload_n 3, 1)] := zdcA_ok (by decide +kernel)
theorem dX0_runBody_143 : decode cX0_runBody 143 = .ok (.ixor, 1) := dX0_runBody_r143.1
theorem dX0_runBody_144 : decode cX0_runBody 144 = .ok (.ireturn, 1) := dX0_runBody_r143.2.1
theorem dX0_runBody_145 : decode cX0_runBody 145 = .ok (.aload_n 0, 1) := dX0_runBody_r143.2.2.1
theorem dX0_runBody_146 : decode cX0_runBody 146 = .ok (.iload_n 2, 1) := dX0_runBody_r143.2.2.2.1
theorem dX0_runBody_147 : decode cX0_runBody 147 = .ok (.iconst 0, 1) := dX0_runBody_r143.2.2.2.2.1
theorem dX0_runBody_148 : decode cX0_runBody 148 = .ok (.iload_n 3, 1) := dX0_runBody_r143.2.2.2.2.2.1
theorem dX0_runBody_149 : decode cX0_runBody 149 = .ok (.iload 4, 2) := dX0_runBody_r143.2.2.2.2.2.2.1
theorem dX0_runBody_151 : decode cX0_runBody 151 = .ok (.invokevirtual 39, 3) := dX0_runBody_r143.2.2.2.2.2.2.2.1
theorem dX0_runBody_154 : decode cX0_runBody 154 = .ok (.aload_n 0, 1) := dX0_runBody_r143.2.2.2.2.2.2.2.2.1
theorem dX0_runBody_155 : decode cX0_runBody 155 = .ok (.getfield 25, 3) := dX0_runBody_r143.2.2.2.2.2.2.2.2.2.1
theorem dX0_runBody_158 : decode cX0_runBody 158 = .ok (.iadd, 1) := dX0_runBody_r143.2.2.2.2.2.2.2.2.2.2.1
theorem dX0_runBody_159 : decode cX0_runBody 159 = .ok (.ireturn, 1) := dX0_runBody_r143.2.2.2.2.2.2.2.2.2.2.2.1
theorem dX0_runBody_160 : decode cX0_runBody 160 = .ok (.aload_n 0, 1) := dX0_runBody_r143.2.2.2.2.2.2.2.2.2.2.2.2.1
theorem dX0_runBody_161 : decode cX0_runBody 161 = .ok (.iload_n 2, 1) := dX0_runBody_r143.2.2.2.2.2.2.2.2.2.2.2.2.2.1
theorem dX0_runBody_162 : decode cX0_runBody 162 = .ok (.iconst 1, 1) := dX0_runBody_r143.2.2.2.2.2.2.2.2.2.2.2.2.2.2.1
theorem dX0_runBody_163 : decode cX0_runBody 163 = .ok (.iload_n 3, 1) := dX0_runBody_r143.2.2.2.2.2.2.2.2.2.2.2.2.2.2.2.1
theorem dX0_runBody_r164 : zdcP cX0_runBody 164 [(.iload 4, 2), (.invokevirtual 39, 3), (.iconst 3, 1), (.imul, 1), (.ireturn, 1), (.aload_n 0, 1), (.iload_n 2, 1), (.iconst 1, 1), (.iload_n 3, 1), (.iconst 1, 1), (.iadd, 1), (.iload 4, 2), (.invokevirtual 39, 3), (.ireturn, 1), (.aload_n 0, 1), (.iload_n 2, 1)] := zdcA_ok (by decide +kernel)
theorem dX0_runBody_164 : decode cX0_runBody 164 = .ok (.iload 4, 2) := dX0_runBody_r164.1
theorem dX0_runBody_166 : decode cX0_runBody 166 = .ok (.invokevirtual 39, 3) := dX0_runBody_r164.2.1
theorem dX0_runBody_169 : decode cX0_runBody 169 = .ok (.iconst 3, 1) := dX0_runBody_r164.2.2.1
theorem dX0_runBody_170 : decode cX0_runBody 170 = .ok (.imul, 1) := dX0_runBody_r164.2.2.2.1
theorem dX0_runBody_171 : decode cX0_runBody 171 = .ok (.ireturn, 1) := dX0_runBody_r164.2.2.2.2.1
theorem dX0_runBody_172 : decode cX0_runBody 172 = .ok (.aload_n 0, 1) := dX0_runBody_r164.2.2.2.2.2.1
theorem dX0_runBody_173 : decode cX0_runBody 173 = .ok (.iload_n 2, 1) := dX0_runBody_r164.2.2.2.2.2.2.1
theorem dX0_runBody_174 : decode cX0_runBody 174 = .ok (.iconst 1, 1) := dX0_runBody_r164.2.2.2.2.2.2.2.1
theorem dX0_runBody_175 : decode cX0_runBody 175 = .ok (.iload_n 3, 1) := dX0_runBody_r164.2.2.2.2.2.2.2.2.1
theorem dX0_runBody_176 : decode cX0_runBody 176 = .ok (.iconst 1, 1) := dX0_runBody_r164.2.2.2.2.2.2.2.2.2.1
theorem dX0_runBody_177 : decode cX0_runBody 177 = .ok (.iadd, 1) := dX0_runBody_r164.2.2.2.2.2.2.2.2.2.2.1
theorem dX0_runBody_178 : decode cX0_runBody 178 = .ok (.iload 4, 2) := dX0_runBody_r164.2.2.2.2.2.2.2.2.2.2.2.1
theorem dX0_runBody_180 : decode cX0_runBody 180 = .ok (.invokevirtual 39, 3) := dX0_runBody_r164.2.2.2.2.2.2.2.2.2.2.2.2.1
theorem dX0_runBody_183 : decode cX0_runBody 183 = .ok (.ireturn, 1) := dX0_runBody_r164.2.2.2.2.2.2.2.2.2.2.2.2.2.1
theorem dX0_runBody_184 : decode cX0_runBody 184 = .ok (.aload_n 0, 1) := dX0_runBody_r164.2.2.2.2.2.2.2.2.2.2.2.2.2.2.1
theorem dX0_runBody_185 : decode cX0_runBody 185 = .ok (.iload_n 2, 1) := dX0_runBody_r164.2.2.2.2.2.2.2.2.2.2.2.2.2.2.2.1
theorem dX0_runBody_r186 : zdcP cX0_runBody 186 [(.iconst 2, 1), (.iload_n 3, 1), (.iload 4, 2), (.invokevirtual 39, 3), (.ineg, 1), (.ireturn, 1), (.aload_n 0, 1), (.iload_n 2, 1), (.iconst 0, 1), (.iload_n 3, 1), (.iload 4, 2), (.invokevirtual 39, 3), (.aload_n 0, 1), (.getfield 22, 3), (.isub, 1), (.ireturn, 1)] := zdcA_ok (by decide +kernel)
theorem dX0_runBody_186 : decode cX0_runBody 186 = .ok (.iconst 2, 1) := dX0_runBody_r186.1
theorem dX0_runBody_187 : decode cX0_runBody 187 = .ok (.iload_n 3, 1) := dX0_runBody_r186.2.1
theorem dX0_runBody_188 : decode cX0_runBody 188 = .ok (.iload 4, 2) := dX0_runBody_r186.2.2.1
theorem dX0_runBody_190 : decode cX0_runBody 190 = .ok (.invokevirtual 39, 3) := dX0_runBody_r186.2.2.2.1
theorem dX0_runBody_193 : decode cX0_runBody 193 = .ok (.ineg, 1) := dX0_runBody_r186.2.2.2.2.1
theorem dX0_runBody_194 : decode cX0_runBody 194 = .ok (.ireturn, 1) := dX0_runBody_r186.2.2.2.2.2.1
theorem dX0_runBody_195 : decode cX0_runBody 195 = .ok (.aload_n 0, 1) := dX0_runBody_r186.2.2.2.2.2.2.1
theorem dX0_runBody_196 : decode cX0_runBody 196 = .ok (.iload_n 2, 1) := dX0_runBody_r186.2.2.2.2.2.2.2.1
theorem dX0_runBody_197 : decode cX0_runBody 197 = .ok (.iconst 0, 1) := dX0_runBody_r186.2.2.2.2.2.2.2.2.1
theorem dX0_runBody_198 : decode cX0_runBody 198 = .ok (.iload_n 3, 1) := dX0_runBody_r186.2.2.2.2.2.2.2.2.2.1
theorem dX0_runBody_199 : decode cX0_runBody 199 = .ok (.iload 4, 2) := dX0_runBody_r186.2.2.2.2.2.2.2.2.2.2.1
theorem dX0_runBody_201 : decode cX0_runBody 201 = .ok (.invokevirtual 39, 3) := dX0_runBody_r186.2.2.2.2.2.2.2.2.2.2.2.1
theorem dX0_runBody_204 : decode cX0_runBody 204 = .ok (.aload_n 0, 1) := dX0_runBody_r186.2.2.2.2.2.2.2.2.2.2.2.2.1
theorem dX0_runBody_205 : decode cX0_runBody 205 = .ok (.getfield 22, 3) := dX0_runBody_r186.2.2.2.2.2.2.2.2.2.2.2.2.2.1
theorem dX0_runBody_208 : decode cX0_runBody 208 = .ok (.isub, 1) := dX0_runBody_r186.2.2.2.2.2.2.2.2.2.2.2.2.2.2.1
theorem dX0_runBody_209 : decode cX0_runBody 209 = .ok (.ireturn, 1) := dX0_runBody_r186.2.2.2.2.2.2.2.2.2.2.2.2.2.2.2.1
theorem dX0_runBody_r210 : zdcP cX0_runBody 210 [(.aload_n 0, 1), (.iload_n 2, 1), (.iconst 2, 1), (.iload_n 3, 1), (.iload 4, 2), (.invokevirtual 39, 3), (.iconst 5, 1), (.ixor, 1), (.ireturn, 1), (.aload_n 0, 1), (.iload_n 2, 1), (.iconst 0, 1), (.iload_n 3, 1), (.iload 4, 2), (.invokevirtual 39, 3), (.iconst 2, 1)] := zdcA_ok (by decide +kernel)
theorem dX0_runBody_210 : decode cX0_runBody 210 = .ok (.aload_n 0, 1) := dX0_runBody_r210.1
theorem dX0_runBody_211 : decode cX0_runBody 211 = .ok (.iload_n 2, 1) := dX0_runBody_r210.2.1
theorem dX0_runBody_212 : decode cX0_runBody 212 = .ok (.iconst 2, 1) := dX0_runBody_r210.2.2.1
theorem dX0_runBody_213 : decode cX0_runBody 213 = .ok (.iload_n 3, 1) := dX0_runBody_r210.2.2.2.1
theorem dX0_runBody_214 : decode cX0_runBody 214 = .ok (.iload 4, 2) := dX0_runBody_r210.2.2.2.2.1
theorem dX0_runBody_216 : decode cX0_runBody 216 = .ok (.invokevirtual 39, 3) := dX0_runBody_r210.2.2.2.2.2.1
theorem dX0_runBody_219 : decode cX0_runBody 219 = .ok (.iconst 5, 1) := dX0_runBody_r210.2.2.2.2.2.2.1
theorem dX0_runBody_220 : decode cX0_runBody 220 = .ok (.ixor, 1) := dX0_runBody_r210.2.2.2.2.2.2.2.1
theorem dX0_runBody_221 : decode cX0_runBody 221 = .ok (.ireturn, 1) := dX0_runBody_r210.2.2.2.2.2.2.2.2.1
theorem dX0_runBody_222 : decode cX0_runBody 222 = .ok (.aload_n 0, 1) := dX0_runBody_r210.2.2.2.2.2.2.2.2.2.1
theorem dX0_runBody_223 : decode cX0_runBody 223 = .ok (.iload_n 2, 1) := dX0_runBody_r210.2.2.2.2.2.2.2.2.2.2.1
theorem dX0_runBody_224 : decode cX0_runBody 224 = .ok (.iconst 0, 1) := dX0_runBody_r210.2.2.2.2.2.2.2.2.2.2.2.1
theorem dX0_runBody_225 : decode cX0_runBody 225 = .ok (.iload_n 3, 1) := dX0_runBody_r210.2.2.2.2.2.2.2.2.2.2.2.2.1
theorem dX0_runBody_226 : decode cX0_runBody 226 = .ok (.iload 4, 2) := dX0_runBody_r210.2.2.2.2.2.2.2.2.2.2.2.2.2.1
theorem dX0_runBody_228 : decode cX0_runBody 228 = .ok (.invokevirtual 39, 3) := dX0_runBody_r210.2.2.2.2.2.2.2.2.2.2.2.2.2.2.1
theorem dX0_runBody_231 : decode cX0_runBody 231 = .ok (.iconst 2, 1) := dX0_runBody_r210.2.2.2.2.2.2.2.2.2.2.2.2.2.2.2.1
theorem dX0_runBody_r232 : zdcP cX0_runBody 232 [(.imul, 1), (.ireturn, 1), (.aload_n 0, 1), (.iload_n 2, 1), (.iconst 1, 1), (.iload_n 3, 1), (.aload_n 0, 1), (.getfield 25, 3), (.isub, 1), (.iload 4, 2), (.invokevirtual 39, 3), (.ireturn, 1)] := zdcA_ok (by decide +kernel)
theorem dX0_runBody_232 : decode cX0_runBody 232 = .ok (.imul, 1) := dX0_runBody_r232.1
theorem dX0_runBody_233 : decode cX0_runBody 233 = .ok (.ireturn, 1) := dX0_runBody_r232.2.1
theorem dX0_runBody_234 : decode cX0_runBody 234 = .ok (.aload_n 0, 1) := dX0_runBody_r232.2.2.1
theorem dX0_runBody_235 : decode cX0_runBody 235 = .ok (.iload_n 2, 1) := dX0_runBody_r232.2.2.2.1
theorem dX0_runBody_236 : decode cX0_runBody 236 = .ok (.iconst 1, 1) := dX0_runBody_r232.2.2.2.2.1
theorem dX0_runBody_237 : decode cX0_runBody 237 = .ok (.iload_n 3, 1) := dX0_runBody_r232.2.2.2.2.2.1
theorem dX0_runBody_238 : decode cX0_runBody 238 = .ok (.aload_n 0, 1) := dX0_runBody_r232.2.2.2.2.2.2.1
theorem dX0_runBody_239 : decode cX0_runBody 239 = .ok (.getfield 25, 3) := dX0_runBody_r232.2.2.2.2.2.2.2.1
theorem dX0_runBody_242 : decode cX0_runBody 242 = .ok (.isub, 1) := dX0_runBody_r232.2.2.2.2.2.2.2.2.1
theorem dX0_runBody_243 : decode cX0_runBody 243 = .ok (.iload 4, 2) := dX0_runBody_r232.2.2.2.2.2.2.2.2.2.1
theorem dX0_runBody_245 : decode cX0_runBody 245 = .ok (.invokevirtual 39, 3) := dX0_runBody_r232.2.2.2.2.2.2.2.2.2.2.1
theorem dX0_runBody_248 : decode cX0_runBody 248 = .ok (.ireturn, 1) := dX0_runBody_r232.2.2.2.2.2.2.2.2.2.2.2.1
def wp_5 (R : Int32 → Int32 → Int32 → Int32 → zf_Me → (Int32 → zf_Me → Prop) → Prop) (v1 : Int32) (v2 : Int32) (v3 : Int32) (v4 : Int32) (m : zf_Me) (Q : Int32 → zf_Me → Prop) : Prop := ((v1.toInt = 10 → Q (v3 + (m.1 44 3)) m) ∧ (v1.toInt = 11 → R (m.1 44 2) 0 v3 v4 m (fun x1 m2 => Q (x1 * 2) m2)) ∧ (v1.toInt = 12 → R (m.1 44 2) 1 v3 v4 m (fun x3 m4 => R (m4.1 44 2) 0 (v3 - (m4.1 44 4)) v4 m4 (fun x5 m6 => Q (x3 ^^^ x5) m6))) ∧ (v1.toInt = 20 → R v2 0 v3 v4 m (fun x7 m8 => Q (x7 + (m8.1 44 4)) m8)) ∧ (v1.toInt = 30 → R v2 1 v3 v4 m (fun x9 m10 => Q (x9 * 3) m10)) ∧ (v1.toInt = 40 → R v2 1 (v3 + 1) v4 m (fun x11 m12 => Q x11 m12)) ∧ (v1.toInt = 50 → R v2 2 v3 v4 m (fun x13 m14 => Q (-x13) m14)) ∧ (v1.toInt = 51 → R v2 0 v3 v4 m (fun x15 m16 => Q (x15 - (m16.1 44 3)) m16)) ∧ (v1.toInt = 60 → R v2 2 v3 v4 m (fun x17 m18 => Q (x17 ^^^ 5) m18)) ∧ (v1.toInt = 70 → R v2 0 v3 v4 m (fun x19 m20 => Q (x19 * 2) m20)) ∧ ((¬ v1.toInt = 10 ∧ ¬ v1.toInt = 11 ∧ ¬ v1.toInt = 12 ∧ ¬ v1.toInt = 20 ∧ ¬ v1.toInt = 30 ∧ ¬ v1.toInt = 40 ∧ ¬ v1.toInt = 50 ∧ ¬ v1.toInt = 51 ∧ ¬ v1.toInt = 60 ∧ ¬ v1.toInt = 70) → R v2 1 (v3 - (m.1 44 4)) v4 m (fun x21 m22 => Q x21 m22)))
theorem zr_5 {e : Nat} (hd : 0 ≤ e) {R : Int32 → Int32 → Int32 → Int32 → zf_Me → (Int32 → zf_Me → Prop) → Prop} (hR : ∀ (v1 : Int32) (v2 : Int32) (v3 : Int32) (v4 : Int32) (m : zf_Me) (Q : Int32 → zf_Me → Prop), R v1 v2 v3 v4 m Q → zf_M e 4 [.inr (.inr (1, 44)), .inl v1, .inl v2, .inl v3, .inl v4] m (zf_I Q)) {v1 : Int32} {v2 : Int32} {v3 : Int32} {v4 : Int32} {Q : Int32 → zf_Me → Prop} {m : zf_Me} (h : wp_5 R v1 v2 v3 v4 m Q) : zf_M (e + 1) 5 [.inr (.inr (1, 44)), .inl v1, .inl v2, .inl v3, .inl v4] m (zf_I Q) := by
  unfold wp_5 at h
  refine zf_M_of (Nat.le_of_ble_eq_true rfl) zm_5 (L := [some (.inr (.inr (1, 44))), some (.inl v1), some (.inl v2), some (.inl v3), some (.inl v4)]) rfl ?_
  refine zf_ld (pc' := 1) (v := .inl v1) dX0_runBody_0 rfl (fun _ _ _ => rfl) rfl rfl rfl ?_
  by_cases g0 : v1.toInt = 10
  · refine zf_lsw (tg := 92) (o := 91) dX0_runBody_1 rfl (by rw [g0]; rfl) rfl ?_
    replace h := h.1 g0
    refine zf_ld (pc' := 93) (v := .inl v3) dX0_runBody_92 rfl (fun _ _ _ => rfl) rfl rfl rfl ?_
    refine zf_ld (pc' := 94) (v := .inr (.inr (1, 44))) dX0_runBody_93 rfl (fun _ _ _ => rfl) rfl rfl rfl ?_
    refine zf_gfi (pc' := 97) dX0_runBody_94 rfl rfl (by decide) rfl rfl ?_
    refine zf_in (pc' := 98) (S' := [.inl (v3 + (m.1 44 3))]) dX0_runBody_97 rfl (fun _ _ _ => rfl) ?_
    exact zf_ri dX0_runBody_98 rfl h
  by_cases g1 : v1.toInt = 11
  · refine zf_lsw (tg := 99) (o := 98) dX0_runBody_1 rfl (by rw [g1]; rfl) rfl ?_
    replace h := h.2.1 g1
    refine zf_ld (pc' := 100) (v := .inr (.inr (1, 44))) dX0_runBody_99 rfl (fun _ _ _ => rfl) rfl rfl rfl ?_
    refine zf_ld (pc' := 101) (v := .inr (.inr (1, 44))) dX0_runBody_100 rfl (fun _ _ _ => rfl) rfl rfl rfl ?_
    refine zf_gfi (pc' := 104) dX0_runBody_101 rfl rfl (by decide) rfl rfl ?_
    refine zf_ic (v := 0) (pc' := 105) dX0_runBody_104 rfl rfl ?_
    refine zf_ld (pc' := 106) (v := .inl v3) dX0_runBody_105 rfl (fun _ _ _ => rfl) rfl rfl rfl ?_
    refine zf_ld (pc' := 108) (v := .inl v4) dX0_runBody_106 rfl (fun _ _ _ => rfl) rfl rfl rfl ?_
    refine zf_iv (k := 4) (pc' := 111) (r := []) dX0_runBody_108 rfl rfl rfl rfl (by decide) rfl rfl rfl (hR _ _ _ _ _ _ h) (zf_kI (fun x1 m2 h => ?_))
    refine zf_ic (v := 2) (pc' := 112) dX0_runBody_111 rfl rfl ?_
    refine zf_in (pc' := 113) (S' := [.inl (x1 * 2)]) dX0_runBody_112 rfl (fun _ _ _ => rfl) ?_
    exact zf_ri dX0_runBody_113 rfl h
  by_cases g2 : v1.toInt = 12
  · refine zf_lsw (tg := 114) (o := 113) dX0_runBody_1 rfl (by rw [g2]; rfl) rfl ?_
    replace h := h.2.2.1 g2
    refine zf_ld (pc' := 115) (v := .inr (.inr (1, 44))) dX0_runBody_114 rfl (fun _ _ _ => rfl) rfl rfl rfl ?_
    refine zf_ld (pc' := 116) (v := .inr (.inr (1, 44))) dX0_runBody_115 rfl (fun _ _ _ => rfl) rfl rfl rfl ?_
    refine zf_gfi (pc' := 119) dX0_runBody_116 rfl rfl (by decide) rfl rfl ?_
    refine zf_ic (v := 1) (pc' := 120) dX0_runBody_119 rfl rfl ?_
    refine zf_ld (pc' := 121) (v := .inl v3) dX0_runBody_120 rfl (fun _ _ _ => rfl) rfl rfl rfl ?_
    refine zf_ld (pc' := 123) (v := .inl v4) dX0_runBody_121 rfl (fun _ _ _ => rfl) rfl rfl rfl ?_
    refine zf_iv (k := 4) (pc' := 126) (r := []) dX0_runBody_123 rfl rfl rfl rfl (by decide) rfl rfl rfl (hR _ _ _ _ _ _ h) (zf_kI (fun x3 m4 h => ?_))
    refine zf_ld (pc' := 127) (v := .inr (.inr (1, 44))) dX0_runBody_126 rfl (fun _ _ _ => rfl) rfl rfl rfl ?_
    refine zf_ld (pc' := 128) (v := .inr (.inr (1, 44))) dX0_runBody_127 rfl (fun _ _ _ => rfl) rfl rfl rfl ?_
    refine zf_gfi (pc' := 131) dX0_runBody_128 rfl rfl (by decide) rfl rfl ?_
    refine zf_ic (v := 0) (pc' := 132) dX0_runBody_131 rfl rfl ?_
    refine zf_ld (pc' := 133) (v := .inl v3) dX0_runBody_132 rfl (fun _ _ _ => rfl) rfl rfl rfl ?_
    refine zf_ld (pc' := 134) (v := .inr (.inr (1, 44))) dX0_runBody_133 rfl (fun _ _ _ => rfl) rfl rfl rfl ?_
    refine zf_gfi (pc' := 137) dX0_runBody_134 rfl rfl (by decide) rfl rfl ?_
    refine zf_in (pc' := 138) (S' := [.inl (v3 - (m4.1 44 4)), .inl 0, .inl (m4.1 44 2), .inr (.inr (1, 44)), .inl x3]) dX0_runBody_137 rfl (fun _ _ _ => rfl) ?_
    refine zf_ld (pc' := 140) (v := .inl v4) dX0_runBody_138 rfl (fun _ _ _ => rfl) rfl rfl rfl ?_
    refine zf_iv (k := 4) (pc' := 143) (r := [.inl x3]) dX0_runBody_140 rfl rfl rfl rfl (by decide) rfl rfl rfl (hR _ _ _ _ _ _ h) (zf_kI (fun x5 m6 h => ?_))
    refine zf_in (pc' := 144) (S' := [.inl (x3 ^^^ x5)]) dX0_runBody_143 rfl (fun _ _ _ => rfl) ?_
    exact zf_ri dX0_runBody_144 rfl h
  by_cases g3 : v1.toInt = 20
  · refine zf_lsw (tg := 145) (o := 144) dX0_runBody_1 rfl (by rw [g3]; rfl) rfl ?_
    replace h := h.2.2.2.1 g3
    refine zf_ld (pc' := 146) (v := .inr (.inr (1, 44))) dX0_runBody_145 rfl (fun _ _ _ => rfl) rfl rfl rfl ?_
    refine zf_ld (pc' := 147) (v := .inl v2) dX0_runBody_146 rfl (fun _ _ _ => rfl) rfl rfl rfl ?_
    refine zf_ic (v := 0) (pc' := 148) dX0_runBody_147 rfl rfl ?_
    refine zf_ld (pc' := 149) (v := .inl v3) dX0_runBody_148 rfl (fun _ _ _ => rfl) rfl rfl rfl ?_
    refine zf_ld (pc' := 151) (v := .inl v4) dX0_runBody_149 rfl (fun _ _ _ => rfl) rfl rfl rfl ?_
    refine zf_iv (k := 4) (pc' := 154) (r := []) dX0_runBody_151 rfl rfl rfl rfl (by decide) rfl rfl rfl (hR _ _ _ _ _ _ h) (zf_kI (fun x7 m8 h => ?_))
    refine zf_ld (pc' := 155) (v := .inr (.inr (1, 44))) dX0_runBody_154 rfl (fun _ _ _ => rfl) rfl rfl rfl ?_
    refine zf_gfi (pc' := 158) dX0_runBody_155 rfl rfl (by decide) rfl rfl ?_
    refine zf_in (pc' := 159) (S' := [.inl (x7 + (m8.1 44 4))]) dX0_runBody_158 rfl (fun _ _ _ => rfl) ?_
    exact zf_ri dX0_runBody_159 rfl h
  by_cases g4 : v1.toInt = 30
  · refine zf_lsw (tg := 160) (o := 159) dX0_runBody_1 rfl (by rw [g4]; rfl) rfl ?_
    replace h := h.2.2.2.2.1 g4
    refine zf_ld (pc' := 161) (v := .inr (.inr (1, 44))) dX0_runBody_160 rfl (fun _ _ _ => rfl) rfl rfl rfl ?_
    refine zf_ld (pc' := 162) (v := .inl v2) dX0_runBody_161 rfl (fun _ _ _ => rfl) rfl rfl rfl ?_
    refine zf_ic (v := 1) (pc' := 163) dX0_runBody_162 rfl rfl ?_
    refine zf_ld (pc' := 164) (v := .inl v3) dX0_runBody_163 rfl (fun _ _ _ => rfl) rfl rfl rfl ?_
    refine zf_ld (pc' := 166) (v := .inl v4) dX0_runBody_164 rfl (fun _ _ _ => rfl) rfl rfl rfl ?_
    refine zf_iv (k := 4) (pc' := 169) (r := []) dX0_runBody_166 rfl rfl rfl rfl (by decide) rfl rfl rfl (hR _ _ _ _ _ _ h) (zf_kI (fun x9 m10 h => ?_))
    refine zf_ic (v := 3) (pc' := 170) dX0_runBody_169 rfl rfl ?_
    refine zf_in (pc' := 171) (S' := [.inl (x9 * 3)]) dX0_runBody_170 rfl (fun _ _ _ => rfl) ?_
    exact zf_ri dX0_runBody_171 rfl h
  by_cases g5 : v1.toInt = 40
  · refine zf_lsw (tg := 172) (o := 171) dX0_runBody_1 rfl (by rw [g5]; rfl) rfl ?_
    replace h := h.2.2.2.2.2.1 g5
    refine zf_ld (pc' := 173) (v := .inr (.inr (1, 44))) dX0_runBody_172 rfl (fun _ _ _ => rfl) rfl rfl rfl ?_
    refine zf_ld (pc' := 174) (v := .inl v2) dX0_runBody_173 rfl (fun _ _ _ => rfl) rfl rfl rfl ?_
    refine zf_ic (v := 1) (pc' := 175) dX0_runBody_174 rfl rfl ?_
    refine zf_ld (pc' := 176) (v := .inl v3) dX0_runBody_175 rfl (fun _ _ _ => rfl) rfl rfl rfl ?_
    refine zf_ic (v := 1) (pc' := 177) dX0_runBody_176 rfl rfl ?_
    refine zf_in (pc' := 178) (S' := [.inl (v3 + 1), .inl 1, .inl v2, .inr (.inr (1, 44))]) dX0_runBody_177 rfl (fun _ _ _ => rfl) ?_
    refine zf_ld (pc' := 180) (v := .inl v4) dX0_runBody_178 rfl (fun _ _ _ => rfl) rfl rfl rfl ?_
    refine zf_iv (k := 4) (pc' := 183) (r := []) dX0_runBody_180 rfl rfl rfl rfl (by decide) rfl rfl rfl (hR _ _ _ _ _ _ h) (zf_kI (fun x11 m12 h => ?_))
    exact zf_ri dX0_runBody_183 rfl h
  by_cases g6 : v1.toInt = 50
  · refine zf_lsw (tg := 184) (o := 183) dX0_runBody_1 rfl (by rw [g6]; rfl) rfl ?_
    replace h := h.2.2.2.2.2.2.1 g6
    refine zf_ld (pc' := 185) (v := .inr (.inr (1, 44))) dX0_runBody_184 rfl (fun _ _ _ => rfl) rfl rfl rfl ?_
    refine zf_ld (pc' := 186) (v := .inl v2) dX0_runBody_185 rfl (fun _ _ _ => rfl) rfl rfl rfl ?_
    refine zf_ic (v := 2) (pc' := 187) dX0_runBody_186 rfl rfl ?_
    refine zf_ld (pc' := 188) (v := .inl v3) dX0_runBody_187 rfl (fun _ _ _ => rfl) rfl rfl rfl ?_
    refine zf_ld (pc' := 190) (v := .inl v4) dX0_runBody_188 rfl (fun _ _ _ => rfl) rfl rfl rfl ?_
    refine zf_iv (k := 4) (pc' := 193) (r := []) dX0_runBody_190 rfl rfl rfl rfl (by decide) rfl rfl rfl (hR _ _ _ _ _ _ h) (zf_kI (fun x13 m14 h => ?_))
    refine zf_in (pc' := 194) (S' := [.inl (-x13)]) dX0_runBody_193 rfl (fun _ _ _ => rfl) ?_
    exact zf_ri dX0_runBody_194 rfl h
  by_cases g7 : v1.toInt = 51
  · refine zf_lsw (tg := 195) (o := 194) dX0_runBody_1 rfl (by rw [g7]; rfl) rfl ?_
    replace h := h.2.2.2.2.2.2.2.1 g7
    refine zf_ld (pc' := 196) (v := .inr (.inr (1, 44))) dX0_runBody_195 rfl (fun _ _ _ => rfl) rfl rfl rfl ?_
    refine zf_ld (pc' := 197) (v := .inl v2) dX0_runBody_196 rfl (fun _ _ _ => rfl) rfl rfl rfl ?_
    refine zf_ic (v := 0) (pc' := 198) dX0_runBody_197 rfl rfl ?_
    refine zf_ld (pc' := 199) (v := .inl v3) dX0_runBody_198 rfl (fun _ _ _ => rfl) rfl rfl rfl ?_
    refine zf_ld (pc' := 201) (v := .inl v4) dX0_runBody_199 rfl (fun _ _ _ => rfl) rfl rfl rfl ?_
    refine zf_iv (k := 4) (pc' := 204) (r := []) dX0_runBody_201 rfl rfl rfl rfl (by decide) rfl rfl rfl (hR _ _ _ _ _ _ h) (zf_kI (fun x15 m16 h => ?_))
    refine zf_ld (pc' := 205) (v := .inr (.inr (1, 44))) dX0_runBody_204 rfl (fun _ _ _ => rfl) rfl rfl rfl ?_
    refine zf_gfi (pc' := 208) dX0_runBody_205 rfl rfl (by decide) rfl rfl ?_
    refine zf_in (pc' := 209) (S' := [.inl (x15 - (m16.1 44 3))]) dX0_runBody_208 rfl (fun _ _ _ => rfl) ?_
    exact zf_ri dX0_runBody_209 rfl h
  by_cases g8 : v1.toInt = 60
  · refine zf_lsw (tg := 210) (o := 209) dX0_runBody_1 rfl (by rw [g8]; rfl) rfl ?_
    replace h := h.2.2.2.2.2.2.2.2.1 g8
    refine zf_ld (pc' := 211) (v := .inr (.inr (1, 44))) dX0_runBody_210 rfl (fun _ _ _ => rfl) rfl rfl rfl ?_
    refine zf_ld (pc' := 212) (v := .inl v2) dX0_runBody_211 rfl (fun _ _ _ => rfl) rfl rfl rfl ?_
    refine zf_ic (v := 2) (pc' := 213) dX0_runBody_212 rfl rfl ?_
    refine zf_ld (pc' := 214) (v := .inl v3) dX0_runBody_213 rfl (fun _ _ _ => rfl) rfl rfl rfl ?_
    refine zf_ld (pc' := 216) (v := .inl v4) dX0_runBody_214 rfl (fun _ _ _ => rfl) rfl rfl rfl ?_
    refine zf_iv (k := 4) (pc' := 219) (r := []) dX0_runBody_216 rfl rfl rfl rfl (by decide) rfl rfl rfl (hR _ _ _ _ _ _ h) (zf_kI (fun x17 m18 h => ?_))
    refine zf_ic (v := 5) (pc' := 220) dX0_runBody_219 rfl rfl ?_
    refine zf_in (pc' := 221) (S' := [.inl (x17 ^^^ 5)]) dX0_runBody_220 rfl (fun _ _ _ => rfl) ?_
    exact zf_ri dX0_runBody_221 rfl h
  by_cases g9 : v1.toInt = 70
  · refine zf_lsw (tg := 222) (o := 221) dX0_runBody_1 rfl (by rw [g9]; rfl) rfl ?_
    replace h := h.2.2.2.2.2.2.2.2.2.1 g9
    refine zf_ld (pc' := 223) (v := .inr (.inr (1, 44))) dX0_runBody_222 rfl (fun _ _ _ => rfl) rfl rfl rfl ?_
    refine zf_ld (pc' := 224) (v := .inl v2) dX0_runBody_223 rfl (fun _ _ _ => rfl) rfl rfl rfl ?_
    refine zf_ic (v := 0) (pc' := 225) dX0_runBody_224 rfl rfl ?_
    refine zf_ld (pc' := 226) (v := .inl v3) dX0_runBody_225 rfl (fun _ _ _ => rfl) rfl rfl rfl ?_
    refine zf_ld (pc' := 228) (v := .inl v4) dX0_runBody_226 rfl (fun _ _ _ => rfl) rfl rfl rfl ?_
    refine zf_iv (k := 4) (pc' := 231) (r := []) dX0_runBody_228 rfl rfl rfl rfl (by decide) rfl rfl rfl (hR _ _ _ _ _ _ h) (zf_kI (fun x19 m20 h => ?_))
    refine zf_ic (v := 2) (pc' := 232) dX0_runBody_231 rfl rfl ?_
    refine zf_in (pc' := 233) (S' := [.inl (x19 * 2)]) dX0_runBody_232 rfl (fun _ _ _ => rfl) ?_
    exact zf_ri dX0_runBody_233 rfl h
  refine zf_lsw (tg := 234) (o := 233) dX0_runBody_1 rfl (by simp only [Op.lookupswitch.offset]; rw [if_neg (fun z => g0 z.symm)]; rw [if_neg (fun z => g1 z.symm)]; rw [if_neg (fun z => g2 z.symm)]; rw [if_neg (fun z => g3 z.symm)]; rw [if_neg (fun z => g4 z.symm)]; rw [if_neg (fun z => g5 z.symm)]; rw [if_neg (fun z => g6 z.symm)]; rw [if_neg (fun z => g7 z.symm)]; rw [if_neg (fun z => g8 z.symm)]; rw [if_neg (fun z => g9 z.symm)]) rfl ?_
  replace h := h.2.2.2.2.2.2.2.2.2.2 ⟨g0, g1, g2, g3, g4, g5, g6, g7, g8, g9⟩
  refine zf_ld (pc' := 235) (v := .inr (.inr (1, 44))) dX0_runBody_234 rfl (fun _ _ _ => rfl) rfl rfl rfl ?_
  refine zf_ld (pc' := 236) (v := .inl v2) dX0_runBody_235 rfl (fun _ _ _ => rfl) rfl rfl rfl ?_
  refine zf_ic (v := 1) (pc' := 237) dX0_runBody_236 rfl rfl ?_
  refine zf_ld (pc' := 238) (v := .inl v3) dX0_runBody_237 rfl (fun _ _ _ => rfl) rfl rfl rfl ?_
  refine zf_ld (pc' := 239) (v := .inr (.inr (1, 44))) dX0_runBody_238 rfl (fun _ _ _ => rfl) rfl rfl rfl ?_
  refine zf_gfi (pc' := 242) dX0_runBody_239 rfl rfl (by decide) rfl rfl ?_
  refine zf_in (pc' := 243) (S' := [.inl (v3 - (m.1 44 4)), .inl 1, .inl v2, .inr (.inr (1, 44))]) dX0_runBody_242 rfl (fun _ _ _ => rfl) ?_
  refine zf_ld (pc' := 245) (v := .inl v4) dX0_runBody_243 rfl (fun _ _ _ => rfl) rfl rfl rfl ?_
  refine zf_iv (k := 4) (pc' := 248) (r := []) dX0_runBody_245 rfl rfl rfl rfl (by decide) rfl rfl rfl (hR _ _ _ _ _ _ h) (zf_kI (fun x21 m22 h => ?_))
  exact zf_ri dX0_runBody_248 rfl h
def zt_4 : zx_MT := (0, yX0_from, cX0_from, 7, (some FieldType.int), 4, 0)
theorem zm_4 : zx_m 4 = zt_4 := rfl
theorem dX0_from_r0 : zdcP cX0_from 0 [(.iload_n 1, 1), (.istore 5, 2), (.iconst 0, 1), (.istore 6, 2), (.iload 6, 2), (.bipush 7, 2), (.if_icmp .ge 38, 3), (.iload 5, 2), (.invokestatic 43, 3), (.ifCond .eq 30, 3), (.getstatic 47, 3), (.iload 5, 2), (.iconst 3, 1), (.imul, 1), (.iload_n 2, 1), (.iadd, 1)] := zdcA_ok (by decide +kernel)
theorem dX0_from_0 : decode cX0_from 0 = .ok (.iload_n 1, 1) := dX0_from_r0.1
theorem dX0_from_1 : decode cX0_from 1 = .ok (.istore 5, 2) := dX0_from_r0.2.1
theorem dX0_from_3 : decode cX0_from 3 = .ok (.iconst 0, 1) := dX0_from_r0.2.2.1
theorem dX0_from_4 : decode cX0_from 4 = .ok (.istore 6, 2) := dX0_from_r0.2.2.2.1
theorem dX0_from_6 : decode cX0_from 6 = .ok (.iload 6, 2) := dX0_from_r0.2.2.2.2.1
theorem dX0_from_8 : decode cX0_from 8 = .ok (.bipush 7, 2) := dX0_from_r0.2.2.2.2.2.1
theorem dX0_from_10 : decode cX0_from 10 = .ok (.if_icmp .ge 38, 3) := dX0_from_r0.2.2.2.2.2.2.1
theorem dX0_from_13 : decode cX0_from 13 = .ok (.iload 5, 2) := dX0_from_r0.2.2.2.2.2.2.2.1
theorem dX0_from_15 : decode cX0_from 15 = .ok (.invokestatic 43, 3) := dX0_from_r0.2.2.2.2.2.2.2.2.1
theorem dX0_from_18 : decode cX0_from 18 = .ok (.ifCond .eq 30, 3) := dX0_from_r0.2.2.2.2.2.2.2.2.2.1
theorem dX0_from_21 : decode cX0_from 21 = .ok (.getstatic 47, 3) := dX0_from_r0.2.2.2.2.2.2.2.2.2.2.1
theorem dX0_from_24 : decode cX0_from 24 = .ok (.iload 5, 2) := dX0_from_r0.2.2.2.2.2.2.2.2.2.2.2.1
theorem dX0_from_26 : decode cX0_from 26 = .ok (.iconst 3, 1) := dX0_from_r0.2.2.2.2.2.2.2.2.2.2.2.2.1
theorem dX0_from_27 : decode cX0_from 27 = .ok (.imul, 1) := dX0_from_r0.2.2.2.2.2.2.2.2.2.2.2.2.2.1
theorem dX0_from_28 : decode cX0_from 28 = .ok (.iload_n 2, 1) := dX0_from_r0.2.2.2.2.2.2.2.2.2.2.2.2.2.2.1
theorem dX0_from_29 : decode cX0_from 29 = .ok (.iadd, 1) := dX0_from_r0.2.2.2.2.2.2.2.2.2.2.2.2.2.2.2.1
theorem dX0_from_r30 : zdcP cX0_from 30 [(.iaload, 1), (.ifCond .ne 17, 3), (.getstatic 50, 3), (.iload 5, 2), (.iaload, 1), (.istore 5, 2), (.iinc 6 1, 3), (.goto (-39), 3), (.iload 5, 2), (.invokestatic 43, 3), (.ifCond .eq 10, 3), (.iload 4, 2), (.bipush 40, 2), (.if_icmp .le 5, 3), (.iconst 0, 1), (.ireturn, 1)] := zdcA_ok (by decide +kernel)
theorem dX0_from_30 : decode cX0_from 30 = .ok (.iaload, 1) := dX0_from_r30.1
theorem dX0_from_31 : decode cX0_from 31 = .ok (.ifCond .ne 17, 3) := dX0_from_r30.2.1
theorem dX0_from_34 : decode cX0_from 34 = .ok (.getstatic 50, 3) := dX0_from_r30.2.2.1
theorem dX0_from_37 : decode cX0_from 37 = .ok (.iload 5, 2) := dX0_from_r30.2.2.2.1
theorem dX0_from_39 : decode cX0_from 39 = .ok (.iaload, 1) := dX0_from_r30.2.2.2.2.1
theorem dX0_from_40 : decode cX0_from 40 = .ok (.istore 5, 2) := dX0_from_r30.2.2.2.2.2.1
theorem dX0_from_42 : decode cX0_from 42 = .ok (.iinc 6 1, 3) := dX0_from_r30.2.2.2.2.2.2.1
theorem dX0_from_45 : decode cX0_from 45 = .ok (.goto (-39), 3) := dX0_from_r30.2.2.2.2.2.2.2.1
theorem dX0_from_48 : decode cX0_from 48 = .ok (.iload 5, 2) := dX0_from_r30.2.2.2.2.2.2.2.2.1
theorem dX0_from_50 : decode cX0_from 50 = .ok (.invokestatic 43, 3) := dX0_from_r30.2.2.2.2.2.2.2.2.2.1
theorem dX0_from_53 : decode cX0_from 53 = .ok (.ifCond .eq 10, 3) := dX0_from_r30.2.2.2.2.2.2.2.2.2.2.1
theorem dX0_from_56 : decode cX0_from 56 = .ok (.iload 4, 2) := dX0_from_r30.2.2.2.2.2.2.2.2.2.2.2.1
theorem dX0_from_58 : decode cX0_from 58 = .ok (.bipush 40, 2) := dX0_from_r30.2.2.2.2.2.2.2.2.2.2.2.2.1
theorem dX0_from_60 : decode cX0_from 60 = .ok (.if_icmp .le 5, 3) := dX0_from_r30.2.2.2.2.2.2.2.2.2.2.2.2.2.1
theorem dX0_from_63 : decode cX0_from 63 = .ok (.iconst 0, 1) := dX0_from_r30.2.2.2.2.2.2.2.2.2.2.2.2.2.2.1
theorem dX0_from_64 : decode cX0_from 64 = .ok (.ireturn, 1) := dX0_from_r30.2.2.2.2.2.2.2.2.2.2.2.2.2.2.2.1
theorem dX0_from_r65 : zdcP cX0_from 65 [(.getstatic 47, 3), (.iload 5, 2), (.iconst 3, 1), (.imul, 1), (.iload_n 2, 1), (.iadd, 1), (.iaload, 1), (.istore 6, 2), (.aload_n 0, 1), (.getfield 15, 3), (.bipush 20, 2), (.if_icmp .ge 14, 3), (.aload_n 0, 1), (.getfield 11, 3), (.aload_n 0, 1), (.getfield 15, 3)] := zdcA_ok (by decide +kernel)
theorem dX0_from_65 : decode cX0_from 65 = .ok (.getstatic 47, 3) := dX0_from_r65.1
theorem dX0_from_68 : decode cX0_from 68 = .ok (.iload 5, 2) := dX0_from_r65.2.1
theorem dX0_from_70 : decode cX0_from 70 = .ok (.iconst 3, 1) := dX0_from_r65.2.2.1
theorem dX0_from_71 : decode cX0_from 71 = .ok (.imul, 1) := dX0_from_r65.2.2.2.1
theorem dX0_from_72 : decode cX0_from 72 = .ok (.iload_n 2, 1) := dX0_from_r65.2.2.2.2.1
theorem dX0_from_73 : decode cX0_from 73 = .ok (.iadd, 1) := dX0_from_r65.2.2.2.2.2.1
theorem dX0_from_74 : decode cX0_from 74 = .ok (.iaload, 1) := dX0_from_r65.2.2.2.2.2.2.1
theorem dX0_from_75 : decode cX0_from 75 = .ok (.istore 6, 2) := dX0_from_r65.2.2.2.2.2.2.2.1
theorem dX0_from_77 : decode cX0_from 77 = .ok (.aload_n 0, 1) := dX0_from_r65.2.2.2.2.2.2.2.2.1
theorem dX0_from_78 : decode cX0_from 78 = .ok (.getfield 15, 3) := dX0_from_r65.2.2.2.2.2.2.2.2.2.1
theorem dX0_from_81 : decode cX0_from 81 = .ok (.bipush 20, 2) := dX0_from_r65.2.2.2.2.2.2.2.2.2.2.1
theorem dX0_from_83 : decode cX0_from 83 = .ok (.if_icmp .ge 14, 3) := dX0_from_r65.2.2.2.2.2.2.2.2.2.2.2.1
theorem dX0_from_86 : decode cX0_from 86 = .ok (.aload_n 0, 1) := dX0_from_r65.2.2.2.2.2.2.2.2.2.2.2.2.1
theorem dX0_from_87 : decode cX0_from 87 = .ok (.getfield 11, 3) := dX0_from_r65.2.2.2.2.2.2.2.2.2.2.2.2.2.1
theorem dX0_from_90 : decode cX0_from 90 = .ok (.aload_n 0, 1) := dX0_from_r65.2.2.2.2.2.2.2.2.2.2.2.2.2.2.1
theorem dX0_from_91 : decode cX0_from 91 = .ok (.getfield 15, 3) := dX0_from_r65.2.2.2.2.2.2.2.2.2.2.2.2.2.2.2.1
theorem dX0_from_r94 : zdcP cX0_from 94 [(.iload 6, 2), (.iastore, 1), (.aload_n 0, 1), (.dup, 1), (.getfield 15, 3), (.iconst 1, 1), (.iadd, 1), (.putfield 15, 3), (.aload_n 0, 1), (.iload 6, 2), (.getstatic 50, 3), (.iload 5, 2), (.iaload, 1), (.iload_n 3, 1), (.iload 4, 2), (.iconst 1, 1)] := zdcA_ok (by decide +kernel)
theorem dX0_from_94 : decode cX0_from 94 = .ok (.iload 6, 2) := dX0_from_r94.1
theorem dX0_from_96 : decode cX0_from 96 = .ok (.iastore, 1) := dX0_from_r94.2.1
theorem dX0_from_97 : decode cX0_from 97 = .ok (.aload_n 0, 1) := dX0_from_r94.2.2.1
theorem dX0_from_98 : decode cX0_from 98 = .ok (.dup, 1) := dX0_from_r94.2.2.2.1
theorem dX0_from_99 : decode cX0_from 99 = .ok (.getfield 15, 3) := dX0_from_r94.2.2.2.2.1
theorem dX0_from_102 : decode cX0_from 102 = .ok (.iconst 1, 1) := dX0_from_r94.2.2.2.2.2.1
theorem dX0_from_103 : decode cX0_from 103 = .ok (.iadd, 1) := dX0_from_r94.2.2.2.2.2.2.1
theorem dX0_from_104 : decode cX0_from 104 = .ok (.putfield 15, 3) := dX0_from_r94.2.2.2.2.2.2.2.1
theorem dX0_from_107 : decode cX0_from 107 = .ok (.aload_n 0, 1) := dX0_from_r94.2.2.2.2.2.2.2.2.1
theorem dX0_from_108 : decode cX0_from 108 = .ok (.iload 6, 2) := dX0_from_r94.2.2.2.2.2.2.2.2.2.1
theorem dX0_from_110 : decode cX0_from 110 = .ok (.getstatic 50, 3) := dX0_from_r94.2.2.2.2.2.2.2.2.2.2.1
theorem dX0_from_113 : decode cX0_from 113 = .ok (.iload 5, 2) := dX0_from_r94.2.2.2.2.2.2.2.2.2.2.2.1
theorem dX0_from_115 : decode cX0_from 115 = .ok (.iaload, 1) := dX0_from_r94.2.2.2.2.2.2.2.2.2.2.2.2.1
theorem dX0_from_116 : decode cX0_from 116 = .ok (.iload_n 3, 1) := dX0_from_r94.2.2.2.2.2.2.2.2.2.2.2.2.2.1
theorem dX0_from_117 : decode cX0_from 117 = .ok (.iload 4, 2) := dX0_from_r94.2.2.2.2.2.2.2.2.2.2.2.2.2.2.1
theorem dX0_from_119 : decode cX0_from 119 = .ok (.iconst 1, 1) := dX0_from_r94.2.2.2.2.2.2.2.2.2.2.2.2.2.2.2.1
theorem dX0_from_r120 : zdcP cX0_from 120 [(.iadd, 1), (.invokevirtual 53, 3), (.ireturn, 1)] := zdcA_ok (by decide +kernel)
theorem dX0_from_120 : decode cX0_from 120 = .ok (.iadd, 1) := dX0_from_r120.1
theorem dX0_from_121 : decode cX0_from 121 = .ok (.invokevirtual 53, 3) := dX0_from_r120.2.1
theorem dX0_from_124 : decode cX0_from 124 = .ok (.ireturn, 1) := dX0_from_r120.2.2.1
def wq_4_97 (R : Int32 → Int32 → Int32 → Int32 → zf_Me → (Int32 → zf_Me → Prop) → Prop) (v1 : Int32) (v2 : Int32) (v3 : Int32) (v4 : Int32) (v5 : Int32) (v6 : Int32) (m : zf_Me) (Q : Int32 → zf_Me → Prop) : Prop := (∀ m3, m3 = zf_u m 44 1 ((m.1 44 1) + 1) → ((0 ≤ (v5).toInt ∧ (v5).toInt < 7) ∧ wp_5 R v6 ((zx_sa.getD 0 []).getD (Int32.toInt v5).toNat 0) v3 (v4 + 1) m3 (fun x5 m6 => Q x5 m6)))
theorem zq_4_97 {e : Nat} (hd : 0 ≤ e) {R : Int32 → Int32 → Int32 → Int32 → zf_Me → (Int32 → zf_Me → Prop) → Prop} (hR : ∀ (v1 : Int32) (v2 : Int32) (v3 : Int32) (v4 : Int32) (m : zf_Me) (Q : Int32 → zf_Me → Prop), R v1 v2 v3 v4 m Q → zf_M e 4 [.inr (.inr (1, 44)), .inl v1, .inl v2, .inl v3, .inl v4] m (zf_I Q)) {v1 : Int32} {v2 : Int32} {v3 : Int32} {v4 : Int32} {Q : Int32 → zf_Me → Prop} {v5 : Int32} {v6 : Int32} {m : zf_Me} (h : wq_4_97 R v1 v2 v3 v4 v5 v6 m Q) : zf_W none 0 0 (e + 2) zt_4 97 [some (.inr (.inr (1, 44))), none, none, some (.inl v3), some (.inl v4), some (.inl v5), some (.inl v6)] [] m (zf_I Q) := by
  unfold wq_4_97 at h
  refine zf_ld (pc' := 98) (v := .inr (.inr (1, 44))) dX0_from_97 rfl (fun _ _ _ => rfl) rfl rfl rfl ?_
  refine zf_in (pc' := 99) (S' := [.inr (.inr (1, 44)), .inr (.inr (1, 44))]) dX0_from_98 rfl (fun _ _ _ => rfl) ?_
  refine zf_gfi (pc' := 102) dX0_from_99 rfl rfl (by decide) rfl rfl ?_
  refine zf_ic (v := 1) (pc' := 103) dX0_from_102 rfl rfl ?_
  refine zf_in (pc' := 104) (S' := [.inl ((m.1 44 1) + 1), .inr (.inr (1, 44))]) dX0_from_103 rfl (fun _ _ _ => rfl) ?_
  refine zf_pf (pc' := 107) dX0_from_104 rfl rfl (by decide) rfl rfl rfl (fun m3 e4 => ?_)
  replace h := h m3 e4
  refine zf_ld (pc' := 108) (v := .inr (.inr (1, 44))) dX0_from_107 rfl (fun _ _ _ => rfl) rfl rfl rfl ?_
  refine zf_ld (pc' := 110) (v := .inl v6) dX0_from_108 rfl (fun _ _ _ => rfl) rfl rfl rfl ?_
  refine zf_gs (g := 0) (pc' := 113) dX0_from_110 rfl rfl rfl ?_
  refine zf_ld (pc' := 115) (v := .inl v5) dX0_from_113 rfl (fun _ _ _ => rfl) rfl rfl rfl ?_
  refine zf_ials (pc' := 116) dX0_from_115 rfl (by decide) (n := 7) rfl h.1 ?_
  replace h := h.2
  refine zf_ld (pc' := 117) (v := .inl v3) dX0_from_116 rfl (fun _ _ _ => rfl) rfl rfl rfl ?_
  refine zf_ld (pc' := 119) (v := .inl v4) dX0_from_117 rfl (fun _ _ _ => rfl) rfl rfl rfl ?_
  refine zf_ic (v := 1) (pc' := 120) dX0_from_119 rfl rfl ?_
  refine zf_in (pc' := 121) (S' := [.inl (v4 + 1), .inl v3, .inl ((zx_sa.getD 0 []).getD (Int32.toInt v5).toNat 0), .inl v6, .inr (.inr (1, 44))]) dX0_from_120 rfl (fun _ _ _ => rfl) ?_
  refine zf_iv (k := 5) (pc' := 124) (r := []) dX0_from_121 rfl rfl rfl rfl (by decide) rfl rfl rfl (zr_5 (by omega) hR h) (zf_kI (fun x5 m6 h => ?_))
  exact zf_ri dX0_from_124 rfl h
def wq_4_48 (R : Int32 → Int32 → Int32 → Int32 → zf_Me → (Int32 → zf_Me → Prop) → Prop) (v1 : Int32) (v2 : Int32) (v3 : Int32) (v4 : Int32) (v5 : Int32) (m : zf_Me) (Q : Int32 → zf_Me → Prop) : Prop := wp_115 v5 m (fun b1 m2 => ((b1 = false → Q 0 m2) ∧ (b1 = true → ((v4.toInt ≤ 40 → ((0 ≤ (((v5 * 3) + v2)).toInt ∧ (((v5 * 3) + v2)).toInt < 21) ∧ ((((m2.1 44 1)).toInt ≥ 20 → wq_4_97 R v1 v2 v3 v4 v5 ((zx_sa.getD 4 []).getD (Int32.toInt ((v5 * 3) + v2)).toNat 0) m2 Q) ∧ (((m2.1 44 1)).toInt < 20 → ((0 ≤ (Int32.toInt (m2.1 44 1)) ∧ (Int32.toInt (m2.1 44 1)) < (20 : Int)) ∧ ∀ m7, m7 = zf_u m2 45 (Int32.toInt (m2.1 44 1)).toNat ((zx_sa.getD 4 []).getD (Int32.toInt ((v5 * 3) + v2)).toNat 0) → wq_4_97 R v1 v2 v3 v4 v5 ((zx_sa.getD 4 []).getD (Int32.toInt ((v5 * 3) + v2)).toNat 0) m7 Q))))) ∧ (v4.toInt > 40 → Q 0 m2)))))
theorem zq_4_48 {e : Nat} (hd : 0 ≤ e) {R : Int32 → Int32 → Int32 → Int32 → zf_Me → (Int32 → zf_Me → Prop) → Prop} (hR : ∀ (v1 : Int32) (v2 : Int32) (v3 : Int32) (v4 : Int32) (m : zf_Me) (Q : Int32 → zf_Me → Prop), R v1 v2 v3 v4 m Q → zf_M e 4 [.inr (.inr (1, 44)), .inl v1, .inl v2, .inl v3, .inl v4] m (zf_I Q)) {v1 : Int32} {v2 : Int32} {v3 : Int32} {v4 : Int32} {Q : Int32 → zf_Me → Prop} {v5 : Int32} {m : zf_Me} (h : wq_4_48 R v1 v2 v3 v4 v5 m Q) : zf_W none 0 0 (e + 2) zt_4 48 [some (.inr (.inr (1, 44))), none, some (.inl v2), some (.inl v3), some (.inl v4), some (.inl v5), none] [] m (zf_I Q) := by
  unfold wq_4_48 at h
  refine zf_ld (pc' := 50) (v := .inl v5) dX0_from_48 rfl (fun _ _ _ => rfl) rfl rfl rfl ?_
  refine zf_is (k := 115) (pc' := 53) (r := []) dX0_from_50 rfl rfl rfl rfl rfl (zr_115 (by omega) h) (zf_kB (fun b1 m2 h => ?_))
  refine zf_ib_eq (tgt := 63) (pc' := 56) dX0_from_53 rfl rfl (fun g => ?_) (fun g => ?_)
  · replace h := h.1 g
    refine zf_ic (v := 0) (pc' := 64) dX0_from_63 rfl rfl ?_
    exact zf_ri dX0_from_64 rfl h
  · replace h := h.2 g
    refine zf_ld (pc' := 58) (v := .inl v4) dX0_from_56 rfl (fun _ _ _ => rfl) rfl rfl rfl ?_
    refine zf_bi (v := 40) (pc' := 60) dX0_from_58 rfl rfl ?_
    refine zf_icmp_le (tgt := 65) (pc' := 63) dX0_from_60 rfl rfl (fun g => ?_) (fun g => ?_)
    · replace h := h.1 g
      refine zf_gs (g := 4) (pc' := 68) dX0_from_65 rfl rfl rfl ?_
      refine zf_ld (pc' := 70) (v := .inl v5) dX0_from_68 rfl (fun _ _ _ => rfl) rfl rfl rfl ?_
      refine zf_ic (v := 3) (pc' := 71) dX0_from_70 rfl rfl ?_
      refine zf_in (pc' := 72) (S' := [.inl (v5 * 3), .inr (.inr (4, 4))]) dX0_from_71 rfl (fun _ _ _ => rfl) ?_
      refine zf_ld (pc' := 73) (v := .inl v2) dX0_from_72 rfl (fun _ _ _ => rfl) rfl rfl rfl ?_
      refine zf_in (pc' := 74) (S' := [.inl ((v5 * 3) + v2), .inr (.inr (4, 4))]) dX0_from_73 rfl (fun _ _ _ => rfl) ?_
      refine zf_ials (pc' := 75) dX0_from_74 rfl (by decide) (n := 21) rfl h.1 ?_
      replace h := h.2
      refine zf_st (pc' := 77) (L2 := [some (.inr (.inr (1, 44))), none, some (.inl v2), some (.inl v3), some (.inl v4), some (.inl v5), some (.inl ((zx_sa.getD 4 []).getD (Int32.toInt ((v5 * 3) + v2)).toNat 0))]) dX0_from_75 rfl (fun _ _ _ => rfl) rfl rfl rfl rfl rfl rfl ?_
      refine zf_ld (pc' := 78) (v := .inr (.inr (1, 44))) dX0_from_77 rfl (fun _ _ _ => rfl) rfl rfl rfl ?_
      refine zf_gfi (pc' := 81) dX0_from_78 rfl rfl (by decide) rfl rfl ?_
      refine zf_bi (v := 20) (pc' := 83) dX0_from_81 rfl rfl ?_
      refine zf_icmp_ge (tgt := 97) (pc' := 86) dX0_from_83 rfl rfl (fun g => ?_) (fun g => ?_)
      · replace h := h.1 g
        exact zf_lo (zq_4_97 (by omega) hR h) ⟨rfl, rfl, rfl, rfl, rfl, trivial⟩
      · replace h := h.2 g
        refine zf_ld (pc' := 87) (v := .inr (.inr (1, 44))) dX0_from_86 rfl (fun _ _ _ => rfl) rfl rfl rfl ?_
        refine zf_gfr (pc' := 90) (b := 45) dX0_from_87 rfl rfl (by decide) rfl rfl ?_
        refine zf_ld (pc' := 91) (v := .inr (.inr (1, 44))) dX0_from_90 rfl (fun _ _ _ => rfl) rfl rfl rfl ?_
        refine zf_gfi (pc' := 94) dX0_from_91 rfl rfl (by decide) rfl rfl ?_
        refine zf_ld (pc' := 96) (v := .inl ((zx_sa.getD 4 []).getD (Int32.toInt ((v5 * 3) + v2)).toNat 0)) dX0_from_94 rfl (fun _ _ _ => rfl) rfl rfl rfl ?_
        refine zf_ias (pc' := 97) dX0_from_96 rfl (⟨by decide, rfl⟩ : zf_arr 45 20).1 (⟨by decide, rfl⟩ : zf_arr 45 20).2 h.1 rfl (fun m7 e8 => ?_)
        replace h := h.2 m7 e8
        exact zf_lo (zq_4_97 (by omega) hR h) ⟨rfl, rfl, rfl, rfl, rfl, trivial⟩
    · replace h := h.2 g
      refine zf_ic (v := 0) (pc' := 64) dX0_from_63 rfl rfl ?_
      exact zf_ri dX0_from_64 rfl h
def wq_4_6 (R : Int32 → Int32 → Int32 → Int32 → zf_Me → (Int32 → zf_Me → Prop) → Prop) (v1 : Int32) (v2 : Int32) (v3 : Int32) (v4 : Int32) (Q : Int32 → zf_Me → Prop) : Nat → Int32 → Int32 → zf_Me → Prop
  | 0, _, _, _ => False
  | n + 1, v5, v6, m => ((v6.toInt ≥ 7 → wq_4_48 R v1 v2 v3 v4 v5 m Q) ∧ (v6.toInt < 7 → wp_115 v5 m (fun b9 m10 => ((b9 = false → wq_4_48 R v1 v2 v3 v4 v5 m10 Q) ∧ (b9 = true → ((0 ≤ (((v5 * 3) + v2)).toInt ∧ (((v5 * 3) + v2)).toInt < 21) ∧ ((¬ (((zx_sa.getD 4 []).getD (Int32.toInt ((v5 * 3) + v2)).toNat 0)).toInt = 0 → wq_4_48 R v1 v2 v3 v4 v5 m10 Q) ∧ ((((zx_sa.getD 4 []).getD (Int32.toInt ((v5 * 3) + v2)).toNat 0)).toInt = 0 → ((0 ≤ (v5).toInt ∧ (v5).toInt < 7) ∧ wq_4_6 R v1 v2 v3 v4 Q n ((zx_sa.getD 0 []).getD (Int32.toInt v5).toNat 0) (v6 + 1) m10)))))))))
theorem zq_4_6 {e : Nat} (hd : 0 ≤ e) {R : Int32 → Int32 → Int32 → Int32 → zf_Me → (Int32 → zf_Me → Prop) → Prop} (hR : ∀ (v1 : Int32) (v2 : Int32) (v3 : Int32) (v4 : Int32) (m : zf_Me) (Q : Int32 → zf_Me → Prop), R v1 v2 v3 v4 m Q → zf_M e 4 [.inr (.inr (1, 44)), .inl v1, .inl v2, .inl v3, .inl v4] m (zf_I Q)) {v1 : Int32} {v2 : Int32} {v3 : Int32} {v4 : Int32} {Q : Int32 → zf_Me → Prop} : ∀ (n : Nat) (v5 : Int32) (v6 : Int32) (m : zf_Me), wq_4_6 R v1 v2 v3 v4 Q n v5 v6 m → zf_W none 0 0 (e + 2) zt_4 6 [some (.inr (.inr (1, 44))), none, some (.inl v2), some (.inl v3), some (.inl v4), some (.inl v5), some (.inl v6)] [] m (zf_I Q) := by
  intro n
  induction n with
  | zero =>
    intro v5 v6 m h
    exact h.elim
  | succ n ih =>
    intro v5 v6 m h
    unfold wq_4_6 at h
    refine zf_ld (pc' := 8) (v := .inl v6) dX0_from_6 rfl (fun _ _ _ => rfl) rfl rfl rfl ?_
    refine zf_bi (v := 7) (pc' := 10) dX0_from_8 rfl rfl ?_
    refine zf_icmp_ge (tgt := 48) (pc' := 13) dX0_from_10 rfl rfl (fun g => ?_) (fun g => ?_)
    · replace h := h.1 g
      exact zf_lo (zq_4_48 (by omega) hR h) ⟨rfl, rfl, rfl, rfl, rfl, trivial⟩
    · replace h := h.2 g
      refine zf_ld (pc' := 15) (v := .inl v5) dX0_from_13 rfl (fun _ _ _ => rfl) rfl rfl rfl ?_
      refine zf_is (k := 115) (pc' := 18) (r := []) dX0_from_15 rfl rfl rfl rfl rfl (zr_115 (by omega) h) (zf_kB (fun b9 m10 h => ?_))
      refine zf_ib_eq (tgt := 48) (pc' := 21) dX0_from_18 rfl rfl (fun g => ?_) (fun g => ?_)
      · replace h := h.1 g
        exact zf_lo (zq_4_48 (by omega) hR h) ⟨rfl, rfl, rfl, rfl, rfl, trivial⟩
      · replace h := h.2 g
        refine zf_gs (g := 4) (pc' := 24) dX0_from_21 rfl rfl rfl ?_
        refine zf_ld (pc' := 26) (v := .inl v5) dX0_from_24 rfl (fun _ _ _ => rfl) rfl rfl rfl ?_
        refine zf_ic (v := 3) (pc' := 27) dX0_from_26 rfl rfl ?_
        refine zf_in (pc' := 28) (S' := [.inl (v5 * 3), .inr (.inr (4, 4))]) dX0_from_27 rfl (fun _ _ _ => rfl) ?_
        refine zf_ld (pc' := 29) (v := .inl v2) dX0_from_28 rfl (fun _ _ _ => rfl) rfl rfl rfl ?_
        refine zf_in (pc' := 30) (S' := [.inl ((v5 * 3) + v2), .inr (.inr (4, 4))]) dX0_from_29 rfl (fun _ _ _ => rfl) ?_
        refine zf_ials (pc' := 31) dX0_from_30 rfl (by decide) (n := 21) rfl h.1 ?_
        replace h := h.2
        refine zf_if_ne (tgt := 48) (pc' := 34) dX0_from_31 rfl rfl (fun g => ?_) (fun g => ?_)
        · replace h := h.1 g
          exact zf_lo (zq_4_48 (by omega) hR h) ⟨rfl, rfl, rfl, rfl, rfl, trivial⟩
        · replace h := h.2 g
          refine zf_gs (g := 0) (pc' := 37) dX0_from_34 rfl rfl rfl ?_
          refine zf_ld (pc' := 39) (v := .inl v5) dX0_from_37 rfl (fun _ _ _ => rfl) rfl rfl rfl ?_
          refine zf_ials (pc' := 40) dX0_from_39 rfl (by decide) (n := 7) rfl h.1 ?_
          replace h := h.2
          refine zf_st (pc' := 42) (L2 := [some (.inr (.inr (1, 44))), none, some (.inl v2), some (.inl v3), some (.inl v4), some (.inl ((zx_sa.getD 0 []).getD (Int32.toInt v5).toNat 0)), some (.inl v6)]) dX0_from_40 rfl (fun _ _ _ => rfl) rfl rfl rfl rfl rfl rfl ?_
          refine zf_ii (y := (v6 + 1)) (L2 := [some (.inr (.inr (1, 44))), none, some (.inl v2), some (.inl v3), some (.inl v4), some (.inl ((zx_sa.getD 0 []).getD (Int32.toInt v5).toNat 0)), some (.inl (v6 + 1))]) (pc' := 45) dX0_from_42 rfl rfl rfl rfl rfl ?_
          refine zf_goto (tgt := 6) dX0_from_45 rfl ?_
          exact zf_lo (ih _ _ _ h) ⟨rfl, rfl, rfl, rfl, rfl, rfl, trivial⟩
def wb_4 (R : Int32 → Int32 → Int32 → Int32 → zf_Me → (Int32 → zf_Me → Prop) → Prop) (v1 : Int32) (v2 : Int32) (v3 : Int32) (v4 : Int32) (m : zf_Me) (Q : Int32 → zf_Me → Prop) : Prop := (∃ n6, wq_4_6 R v1 v2 v3 v4 Q n6 v1 0 m)
theorem zb_4 {e : Nat} (hd : 0 ≤ e) {R : Int32 → Int32 → Int32 → Int32 → zf_Me → (Int32 → zf_Me → Prop) → Prop} (hR : ∀ (v1 : Int32) (v2 : Int32) (v3 : Int32) (v4 : Int32) (m : zf_Me) (Q : Int32 → zf_Me → Prop), R v1 v2 v3 v4 m Q → zf_M e 4 [.inr (.inr (1, 44)), .inl v1, .inl v2, .inl v3, .inl v4] m (zf_I Q)) {v1 : Int32} {v2 : Int32} {v3 : Int32} {v4 : Int32} {Q : Int32 → zf_Me → Prop} {m : zf_Me} (h : wb_4 R v1 v2 v3 v4 m Q) : zf_M (e + 2) 4 [.inr (.inr (1, 44)), .inl v1, .inl v2, .inl v3, .inl v4] m (zf_I Q) := by
  unfold wb_4 at h
  refine zf_M_of (Nat.le_of_ble_eq_true rfl) zm_4 (L := [some (.inr (.inr (1, 44))), some (.inl v1), some (.inl v2), some (.inl v3), some (.inl v4), none, none]) rfl ?_
  refine zf_ld (pc' := 1) (v := .inl v1) dX0_from_0 rfl (fun _ _ _ => rfl) rfl rfl rfl ?_
  refine zf_st (pc' := 3) (L2 := [some (.inr (.inr (1, 44))), some (.inl v1), some (.inl v2), some (.inl v3), some (.inl v4), some (.inl v1), none]) dX0_from_1 rfl (fun _ _ _ => rfl) rfl rfl rfl rfl rfl rfl ?_
  refine zf_ic (v := 0) (pc' := 4) dX0_from_3 rfl rfl ?_
  refine zf_st (pc' := 6) (L2 := [some (.inr (.inr (1, 44))), some (.inl v1), some (.inl v2), some (.inl v3), some (.inl v4), some (.inl v1), some (.inl 0)]) dX0_from_4 rfl (fun _ _ _ => rfl) rfl rfl rfl rfl rfl rfl ?_
  obtain ⟨n6, h⟩ := h
  exact zf_lo (zq_4_6 (by omega) hR n6 _ _ _ h) ⟨rfl, rfl, rfl, rfl, rfl, rfl, trivial⟩
def wp_4 : Nat → Int32 → Int32 → Int32 → Int32 → zf_Me → (Int32 → zf_Me → Prop) → Prop
  | 0, _, _, _, _, _, _ => False
  | n + 1, v1, v2, v3, v4, m, Q => wb_4 (wp_4 n) v1 v2 v3 v4 m Q
theorem zr_4 : ∀ (n : Nat) {d : Nat} (_ : 2 * n + 3 ≤ d) {v1 : Int32} {v2 : Int32} {v3 : Int32} {v4 : Int32} {m : zf_Me} {Q : Int32 → zf_Me → Prop} (_ : wp_4 n v1 v2 v3 v4 m Q), zf_M d 4 [.inr (.inr (1, 44)), .inl v1, .inl v2, .inl v3, .inl v4] m (zf_I Q) := by
  intro n
  induction n with
  | zero => intro d _ _ _ _ _ m Q h; exact h.elim
  | succ n ih =>
    intro d hd _ _ _ _ m Q h
    obtain ⟨e, rfl⟩ : ∃ z, d = z + 2 := ⟨d - 2, by omega⟩
    exact zb_4 (e := e) (R := wp_4 n) (by omega) (fun _ _ _ _ m Q h => ih (by omega) h) h
def zt_2 : zx_MT := (0, yX0_run, cX0_run, 5, (some FieldType.int), 4, 0)
theorem zm_2 : zx_m 2 = zt_2 := rfl
theorem dX0_run_r0 : zdcP cX0_run 0 [(.aload_n 0, 1), (.invokevirtual 28, 3), (.aload_n 0, 1), (.aload_n 1, 1), (.getfield 31, 3), (.iload_n 2, 1), (.iaload, 1), (.putfield 19, 3), (.aload_n 0, 1), (.iload_n 2, 1), (.putfield 22, 3), (.aload_n 0, 1), (.aload_n 1, 1), (.getfield 36, 3), (.iload_n 2, 1), (.iaload, 1)] := zdcA_ok (by decide +kernel)
theorem dX0_run_0 : decode cX0_run 0 = .ok (.aload_n 0, 1) := dX0_run_r0.1
theorem dX0_run_1 : decode cX0_run 1 = .ok (.invokevirtual 28, 3) := dX0_run_r0.2.1
theorem dX0_run_4 : decode cX0_run 4 = .ok (.aload_n 0, 1) := dX0_run_r0.2.2.1
theorem dX0_run_5 : decode cX0_run 5 = .ok (.aload_n 1, 1) := dX0_run_r0.2.2.2.1
theorem dX0_run_6 : decode cX0_run 6 = .ok (.getfield 31, 3) := dX0_run_r0.2.2.2.2.1
theorem dX0_run_9 : decode cX0_run 9 = .ok (.iload_n 2, 1) := dX0_run_r0.2.2.2.2.2.1
theorem dX0_run_10 : decode cX0_run 10 = .ok (.iaload, 1) := dX0_run_r0.2.2.2.2.2.2.1
theorem dX0_run_11 : decode cX0_run 11 = .ok (.putfield 19, 3) := dX0_run_r0.2.2.2.2.2.2.2.1
theorem dX0_run_14 : decode cX0_run 14 = .ok (.aload_n 0, 1) := dX0_run_r0.2.2.2.2.2.2.2.2.1
theorem dX0_run_15 : decode cX0_run 15 = .ok (.iload_n 2, 1) := dX0_run_r0.2.2.2.2.2.2.2.2.2.1
theorem dX0_run_16 : decode cX0_run 16 = .ok (.putfield 22, 3) := dX0_run_r0.2.2.2.2.2.2.2.2.2.2.1
theorem dX0_run_19 : decode cX0_run 19 = .ok (.aload_n 0, 1) := dX0_run_r0.2.2.2.2.2.2.2.2.2.2.2.1
theorem dX0_run_20 : decode cX0_run 20 = .ok (.aload_n 1, 1) := dX0_run_r0.2.2.2.2.2.2.2.2.2.2.2.2.1
theorem dX0_run_21 : decode cX0_run 21 = .ok (.getfield 36, 3) := dX0_run_r0.2.2.2.2.2.2.2.2.2.2.2.2.2.1
theorem dX0_run_24 : decode cX0_run 24 = .ok (.iload_n 2, 1) := dX0_run_r0.2.2.2.2.2.2.2.2.2.2.2.2.2.2.1
theorem dX0_run_25 : decode cX0_run 25 = .ok (.iaload, 1) := dX0_run_r0.2.2.2.2.2.2.2.2.2.2.2.2.2.2.2.1
theorem dX0_run_r26 : zdcP cX0_run 26 [(.putfield 25, 3), (.aload_n 0, 1), (.aload_n 0, 1), (.getfield 19, 3), (.iload_n 3, 1), (.iload 4, 2), (.iconst 0, 1), (.invokevirtual 39, 3), (.ireturn, 1)] := zdcA_ok (by decide +kernel)
theorem dX0_run_26 : decode cX0_run 26 = .ok (.putfield 25, 3) := dX0_run_r26.1
theorem dX0_run_29 : decode cX0_run 29 = .ok (.aload_n 0, 1) := dX0_run_r26.2.1
theorem dX0_run_30 : decode cX0_run 30 = .ok (.aload_n 0, 1) := dX0_run_r26.2.2.1
theorem dX0_run_31 : decode cX0_run 31 = .ok (.getfield 19, 3) := dX0_run_r26.2.2.2.1
theorem dX0_run_34 : decode cX0_run 34 = .ok (.iload_n 3, 1) := dX0_run_r26.2.2.2.2.1
theorem dX0_run_35 : decode cX0_run 35 = .ok (.iload 4, 2) := dX0_run_r26.2.2.2.2.2.1
theorem dX0_run_37 : decode cX0_run 37 = .ok (.iconst 0, 1) := dX0_run_r26.2.2.2.2.2.2.1
theorem dX0_run_38 : decode cX0_run 38 = .ok (.invokevirtual 39, 3) := dX0_run_r26.2.2.2.2.2.2.2.1
theorem dX0_run_41 : decode cX0_run 41 = .ok (.ireturn, 1) := dX0_run_r26.2.2.2.2.2.2.2.2.1
def wp_2 (y1 : Nat) (v2 : Int32) (v3 : Int32) (v4 : Int32) (m : zf_Me) (Q : Int32 → zf_Me → Prop) : Prop := wp_1 m (fun m2 => ((0 ≤ (Int32.toInt v2) ∧ (Int32.toInt v2) < (6 : Int)) ∧ (∀ m3, m3 = zf_u m2 44 2 (m2.1 (y1 + 3) (Int32.toInt v2).toNat) → (∀ m5, m5 = zf_u m3 44 3 v2 → ((0 ≤ (Int32.toInt v2) ∧ (Int32.toInt v2) < (6 : Int)) ∧ (∀ m7, m7 = zf_u m5 44 4 (m5.1 (y1 + 4) (Int32.toInt v2).toNat) → (∃ nx9, nx9 ≤ 45 ∧ wp_4 nx9 (m7.1 44 2) v3 v4 0 m7 (fun x9 m10 => Q x9 m10))))))))
theorem zr_2 {d : Nat} (hd : 94 ≤ d) {y1 : Nat} (hp1 : zf_way y1) {v2 : Int32} {v3 : Int32} {v4 : Int32} {Q : Int32 → zf_Me → Prop} {m : zf_Me} (h : wp_2 y1 v2 v3 v4 m Q) : zf_M d 2 [.inr (.inr (1, 44)), .inr (.inr (1, y1)), .inl v2, .inl v3, .inl v4] m (zf_I Q) := by
  obtain ⟨e, rfl⟩ : ∃ z, d = z + 1 := ⟨d - 1, by omega⟩
  unfold wp_2 at h
  refine zf_M_of (Nat.le_of_ble_eq_true rfl) zm_2 (L := [some (.inr (.inr (1, 44))), some (.inr (.inr (1, y1))), some (.inl v2), some (.inl v3), some (.inl v4)]) rfl ?_
  refine zf_ld (pc' := 1) (v := .inr (.inr (1, 44))) dX0_run_0 rfl (fun _ _ _ => rfl) rfl rfl rfl ?_
  refine zf_iv (k := 1) (pc' := 4) (r := []) dX0_run_1 rfl rfl rfl rfl (by decide) rfl rfl rfl (zr_1 (by omega) h) (zf_kO (fun m2 h => ?_))
  refine zf_ld (pc' := 5) (v := .inr (.inr (1, 44))) dX0_run_4 rfl (fun _ _ _ => rfl) rfl rfl rfl ?_
  refine zf_ld (pc' := 6) (v := .inr (.inr (1, y1))) dX0_run_5 rfl (fun _ _ _ => rfl) rfl rfl rfl ?_
  refine zf_gfr (pc' := 9) (b := (y1 + 3)) dX0_run_6 rfl rfl hp1.1 hp1.2.1 rfl ?_
  refine zf_ld (pc' := 10) (v := .inl v2) dX0_run_9 rfl (fun _ _ _ => rfl) rfl rfl rfl ?_
  refine zf_ial (pc' := 11) dX0_run_10 rfl hp1.2.2.2.2.1.1 hp1.2.2.2.2.1.2 h.1 rfl ?_
  replace h := h.2
  refine zf_pf (pc' := 14) dX0_run_11 rfl rfl (by decide) rfl rfl rfl (fun m3 e4 => ?_)
  replace h := h m3 e4
  refine zf_ld (pc' := 15) (v := .inr (.inr (1, 44))) dX0_run_14 rfl (fun _ _ _ => rfl) rfl rfl rfl ?_
  refine zf_ld (pc' := 16) (v := .inl v2) dX0_run_15 rfl (fun _ _ _ => rfl) rfl rfl rfl ?_
  refine zf_pf (pc' := 19) dX0_run_16 rfl rfl (by decide) rfl rfl rfl (fun m5 e6 => ?_)
  replace h := h m5 e6
  refine zf_ld (pc' := 20) (v := .inr (.inr (1, 44))) dX0_run_19 rfl (fun _ _ _ => rfl) rfl rfl rfl ?_
  refine zf_ld (pc' := 21) (v := .inr (.inr (1, y1))) dX0_run_20 rfl (fun _ _ _ => rfl) rfl rfl rfl ?_
  refine zf_gfr (pc' := 24) (b := (y1 + 4)) dX0_run_21 rfl rfl hp1.1 hp1.2.1 rfl ?_
  refine zf_ld (pc' := 25) (v := .inl v2) dX0_run_24 rfl (fun _ _ _ => rfl) rfl rfl rfl ?_
  refine zf_ial (pc' := 26) dX0_run_25 rfl hp1.2.2.2.2.2.1 hp1.2.2.2.2.2.2 h.1 rfl ?_
  replace h := h.2
  refine zf_pf (pc' := 29) dX0_run_26 rfl rfl (by decide) rfl rfl rfl (fun m7 e8 => ?_)
  replace h := h m7 e8
  refine zf_ld (pc' := 30) (v := .inr (.inr (1, 44))) dX0_run_29 rfl (fun _ _ _ => rfl) rfl rfl rfl ?_
  refine zf_ld (pc' := 31) (v := .inr (.inr (1, 44))) dX0_run_30 rfl (fun _ _ _ => rfl) rfl rfl rfl ?_
  refine zf_gfi (pc' := 34) dX0_run_31 rfl rfl (by decide) rfl rfl ?_
  refine zf_ld (pc' := 35) (v := .inl v3) dX0_run_34 rfl (fun _ _ _ => rfl) rfl rfl rfl ?_
  refine zf_ld (pc' := 37) (v := .inl v4) dX0_run_35 rfl (fun _ _ _ => rfl) rfl rfl rfl ?_
  refine zf_ic (v := 0) (pc' := 38) dX0_run_37 rfl rfl ?_
  obtain ⟨nx9, hnx9, h⟩ := h
  refine zf_iv (k := 4) (pc' := 41) (r := []) dX0_run_38 rfl rfl rfl rfl (by decide) rfl rfl rfl (zr_4 nx9 (by omega) h) (zf_kI (fun x9 m10 h => ?_))
  exact zf_ri dX0_run_41 rfl h
def zt_3 : zx_MT := (0, yX0_kept, cX0_kept, 2, (some FieldType.int), 1, 0)
theorem zm_3 : zx_m 3 = zt_3 := rfl
theorem dX0_kept_r0 : zdcP cX0_kept 0 [(.iload_n 1, 1), (.ifCond .lt 26, 3), (.iload_n 1, 1), (.bipush 20, 2), (.if_icmp .ge 20, 3), (.iload_n 1, 1), (.aload_n 0, 1), (.getfield 15, 3), (.if_icmp .ge 12, 3), (.aload_n 0, 1), (.getfield 11, 3), (.iload_n 1, 1), (.iaload, 1), (.goto 4, 3), (.iconst (-1), 1), (.ireturn, 1)] := zdcA_ok (by decide +kernel)
theorem dX0_kept_0 : decode cX0_kept 0 = .ok (.iload_n 1, 1) := dX0_kept_r0.1
theorem dX0_kept_1 : decode cX0_kept 1 = .ok (.ifCond .lt 26, 3) := dX0_kept_r0.2.1
theorem dX0_kept_4 : decode cX0_kept 4 = .ok (.iload_n 1, 1) := dX0_kept_r0.2.2.1
theorem dX0_kept_5 : decode cX0_kept 5 = .ok (.bipush 20, 2) := dX0_kept_r0.2.2.2.1
theorem dX0_kept_7 : decode cX0_kept 7 = .ok (.if_icmp .ge 20, 3) := dX0_kept_r0.2.2.2.2.1
theorem dX0_kept_10 : decode cX0_kept 10 = .ok (.iload_n 1, 1) := dX0_kept_r0.2.2.2.2.2.1
theorem dX0_kept_11 : decode cX0_kept 11 = .ok (.aload_n 0, 1) := dX0_kept_r0.2.2.2.2.2.2.1
theorem dX0_kept_12 : decode cX0_kept 12 = .ok (.getfield 15, 3) := dX0_kept_r0.2.2.2.2.2.2.2.1
theorem dX0_kept_15 : decode cX0_kept 15 = .ok (.if_icmp .ge 12, 3) := dX0_kept_r0.2.2.2.2.2.2.2.2.1
theorem dX0_kept_18 : decode cX0_kept 18 = .ok (.aload_n 0, 1) := dX0_kept_r0.2.2.2.2.2.2.2.2.2.1
theorem dX0_kept_19 : decode cX0_kept 19 = .ok (.getfield 11, 3) := dX0_kept_r0.2.2.2.2.2.2.2.2.2.2.1
theorem dX0_kept_22 : decode cX0_kept 22 = .ok (.iload_n 1, 1) := dX0_kept_r0.2.2.2.2.2.2.2.2.2.2.2.1
theorem dX0_kept_23 : decode cX0_kept 23 = .ok (.iaload, 1) := dX0_kept_r0.2.2.2.2.2.2.2.2.2.2.2.2.1
theorem dX0_kept_24 : decode cX0_kept 24 = .ok (.goto 4, 3) := dX0_kept_r0.2.2.2.2.2.2.2.2.2.2.2.2.2.1
theorem dX0_kept_27 : decode cX0_kept 27 = .ok (.iconst (-1), 1) := dX0_kept_r0.2.2.2.2.2.2.2.2.2.2.2.2.2.2.1
theorem dX0_kept_28 : decode cX0_kept 28 = .ok (.ireturn, 1) := dX0_kept_r0.2.2.2.2.2.2.2.2.2.2.2.2.2.2.2.1
def wp_3 (v1 : Int32) (m : zf_Me) (Q : Int32 → zf_Me → Prop) : Prop := ((v1.toInt < 0 → Q (-1) m) ∧ (v1.toInt ≥ 0 → ((v1.toInt ≥ 20 → Q (-1) m) ∧ (v1.toInt < 20 → ((v1.toInt ≥ ((m.1 44 1)).toInt → Q (-1) m) ∧ (v1.toInt < ((m.1 44 1)).toInt → ((0 ≤ (Int32.toInt v1) ∧ (Int32.toInt v1) < (20 : Int)) ∧ Q (m.1 45 (Int32.toInt v1).toNat) m)))))))
theorem zr_3 {d : Nat} (hd : 0 ≤ d) {v1 : Int32} {Q : Int32 → zf_Me → Prop} {m : zf_Me} (h : wp_3 v1 m Q) : zf_M d 3 [.inr (.inr (1, 44)), .inl v1] m (zf_I Q) := by
  unfold wp_3 at h
  refine zf_M_of (Nat.le_of_ble_eq_true rfl) zm_3 (L := [some (.inr (.inr (1, 44))), some (.inl v1)]) rfl ?_
  refine zf_ld (pc' := 1) (v := .inl v1) dX0_kept_0 rfl (fun _ _ _ => rfl) rfl rfl rfl ?_
  refine zf_if_lt (tgt := 27) (pc' := 4) dX0_kept_1 rfl rfl (fun g => ?_) (fun g => ?_)
  · replace h := h.1 g
    refine zf_ic (v := (-1)) (pc' := 28) dX0_kept_27 rfl rfl ?_
    exact zf_ri dX0_kept_28 rfl h
  · replace h := h.2 g
    refine zf_ld (pc' := 5) (v := .inl v1) dX0_kept_4 rfl (fun _ _ _ => rfl) rfl rfl rfl ?_
    refine zf_bi (v := 20) (pc' := 7) dX0_kept_5 rfl rfl ?_
    refine zf_icmp_ge (tgt := 27) (pc' := 10) dX0_kept_7 rfl rfl (fun g => ?_) (fun g => ?_)
    · replace h := h.1 g
      refine zf_ic (v := (-1)) (pc' := 28) dX0_kept_27 rfl rfl ?_
      exact zf_ri dX0_kept_28 rfl h
    · replace h := h.2 g
      refine zf_ld (pc' := 11) (v := .inl v1) dX0_kept_10 rfl (fun _ _ _ => rfl) rfl rfl rfl ?_
      refine zf_ld (pc' := 12) (v := .inr (.inr (1, 44))) dX0_kept_11 rfl (fun _ _ _ => rfl) rfl rfl rfl ?_
      refine zf_gfi (pc' := 15) dX0_kept_12 rfl rfl (by decide) rfl rfl ?_
      refine zf_icmp_ge (tgt := 27) (pc' := 18) dX0_kept_15 rfl rfl (fun g => ?_) (fun g => ?_)
      · replace h := h.1 g
        refine zf_ic (v := (-1)) (pc' := 28) dX0_kept_27 rfl rfl ?_
        exact zf_ri dX0_kept_28 rfl h
      · replace h := h.2 g
        refine zf_ld (pc' := 19) (v := .inr (.inr (1, 44))) dX0_kept_18 rfl (fun _ _ _ => rfl) rfl rfl rfl ?_
        refine zf_gfr (pc' := 22) (b := 45) dX0_kept_19 rfl rfl (by decide) rfl rfl ?_
        refine zf_ld (pc' := 23) (v := .inl v1) dX0_kept_22 rfl (fun _ _ _ => rfl) rfl rfl rfl ?_
        refine zf_ial (pc' := 24) dX0_kept_23 rfl (⟨by decide, rfl⟩ : zf_arr 45 20).1 (⟨by decide, rfl⟩ : zf_arr 45 20).2 h.1 rfl ?_
        replace h := h.2
        refine zf_goto (tgt := 28) dX0_kept_24 rfl ?_
        exact zf_ri dX0_kept_28 rfl h
def zt_43 : zx_MT := (5, yX5_copyFrom, cX5_copyFrom, 2, none, 1, 0)
theorem zm_43 : zx_m 43 = zt_43 := rfl
theorem dX5_copyFrom_r0 : zdcP cX5_copyFrom 0 [(.aload_n 1, 1), (.getfield 9, 3), (.iconst 0, 1), (.aload_n 0, 1), (.getfield 9, 3), (.iconst 0, 1), (.bipush 6, 2), (.invokestatic 53, 3), (.aload_n 0, 1), (.aload_n 1, 1), (.getfield 15, 3), (.putfield 15, 3), (.aload_n 0, 1), (.aload_n 1, 1), (.getfield 19, 3), (.putfield 19, 3)] := zdcA_ok (by decide +kernel)
theorem dX5_copyFrom_0 : decode cX5_copyFrom 0 = .ok (.aload_n 1, 1) := dX5_copyFrom_r0.1
theorem dX5_copyFrom_1 : decode cX5_copyFrom 1 = .ok (.getfield 9, 3) := dX5_copyFrom_r0.2.1
theorem dX5_copyFrom_4 : decode cX5_copyFrom 4 = .ok (.iconst 0, 1) := dX5_copyFrom_r0.2.2.1
theorem dX5_copyFrom_5 : decode cX5_copyFrom 5 = .ok (.aload_n 0, 1) := dX5_copyFrom_r0.2.2.2.1
theorem dX5_copyFrom_6 : decode cX5_copyFrom 6 = .ok (.getfield 9, 3) := dX5_copyFrom_r0.2.2.2.2.1
theorem dX5_copyFrom_9 : decode cX5_copyFrom 9 = .ok (.iconst 0, 1) := dX5_copyFrom_r0.2.2.2.2.2.1
theorem dX5_copyFrom_10 : decode cX5_copyFrom 10 = .ok (.bipush 6, 2) := dX5_copyFrom_r0.2.2.2.2.2.2.1
theorem dX5_copyFrom_12 : decode cX5_copyFrom 12 = .ok (.invokestatic 53, 3) := dX5_copyFrom_r0.2.2.2.2.2.2.2.1
theorem dX5_copyFrom_15 : decode cX5_copyFrom 15 = .ok (.aload_n 0, 1) := dX5_copyFrom_r0.2.2.2.2.2.2.2.2.1
theorem dX5_copyFrom_16 : decode cX5_copyFrom 16 = .ok (.aload_n 1, 1) := dX5_copyFrom_r0.2.2.2.2.2.2.2.2.2.1
theorem dX5_copyFrom_17 : decode cX5_copyFrom 17 = .ok (.getfield 15, 3) := dX5_copyFrom_r0.2.2.2.2.2.2.2.2.2.2.1
theorem dX5_copyFrom_20 : decode cX5_copyFrom 20 = .ok (.putfield 15, 3) := dX5_copyFrom_r0.2.2.2.2.2.2.2.2.2.2.2.1
theorem dX5_copyFrom_23 : decode cX5_copyFrom 23 = .ok (.aload_n 0, 1) := dX5_copyFrom_r0.2.2.2.2.2.2.2.2.2.2.2.2.1
theorem dX5_copyFrom_24 : decode cX5_copyFrom 24 = .ok (.aload_n 1, 1) := dX5_copyFrom_r0.2.2.2.2.2.2.2.2.2.2.2.2.2.1
theorem dX5_copyFrom_25 : decode cX5_copyFrom 25 = .ok (.getfield 19, 3) := dX5_copyFrom_r0.2.2.2.2.2.2.2.2.2.2.2.2.2.2.1
theorem dX5_copyFrom_28 : decode cX5_copyFrom 28 = .ok (.putfield 19, 3) := dX5_copyFrom_r0.2.2.2.2.2.2.2.2.2.2.2.2.2.2.2.1
theorem dX5_copyFrom_r31 : zdcP cX5_copyFrom 31 [(.aload_n 0, 1), (.aload_n 1, 1), (.getfield 22, 3), (.putfield 22, 3), (.aload_n 0, 1), (.aload_n 1, 1), (.getfield 25, 3), (.putfield 25, 3), (.aload_n 0, 1), (.aload_n 1, 1), (.getfield 28, 3), (.putfield 28, 3), (.aload_n 0, 1), (.aload_n 1, 1), (.getfield 31, 3), (.putfield 31, 3)] := zdcA_ok (by decide +kernel)
theorem dX5_copyFrom_31 : decode cX5_copyFrom 31 = .ok (.aload_n 0, 1) := dX5_copyFrom_r31.1
theorem dX5_copyFrom_32 : decode cX5_copyFrom 32 = .ok (.aload_n 1, 1) := dX5_copyFrom_r31.2.1
theorem dX5_copyFrom_33 : decode cX5_copyFrom 33 = .ok (.getfield 22, 3) := dX5_copyFrom_r31.2.2.1
theorem dX5_copyFrom_36 : decode cX5_copyFrom 36 = .ok (.putfield 22, 3) := dX5_copyFrom_r31.2.2.2.1
theorem dX5_copyFrom_39 : decode cX5_copyFrom 39 = .ok (.aload_n 0, 1) := dX5_copyFrom_r31.2.2.2.2.1
theorem dX5_copyFrom_40 : decode cX5_copyFrom 40 = .ok (.aload_n 1, 1) := dX5_copyFrom_r31.2.2.2.2.2.1
theorem dX5_copyFrom_41 : decode cX5_copyFrom 41 = .ok (.getfield 25, 3) := dX5_copyFrom_r31.2.2.2.2.2.2.1
theorem dX5_copyFrom_44 : decode cX5_copyFrom 44 = .ok (.putfield 25, 3) := dX5_copyFrom_r31.2.2.2.2.2.2.2.1
theorem dX5_copyFrom_47 : decode cX5_copyFrom 47 = .ok (.aload_n 0, 1) := dX5_copyFrom_r31.2.2.2.2.2.2.2.2.1
theorem dX5_copyFrom_48 : decode cX5_copyFrom 48 = .ok (.aload_n 1, 1) := dX5_copyFrom_r31.2.2.2.2.2.2.2.2.2.1
theorem dX5_copyFrom_49 : decode cX5_copyFrom 49 = .ok (.getfield 28, 3) := dX5_copyFrom_r31.2.2.2.2.2.2.2.2.2.2.1
theorem dX5_copyFrom_52 : decode cX5_copyFrom 52 = .ok (.putfield 28, 3) := dX5_copyFrom_r31.2.2.2.2.2.2.2.2.2.2.2.1
theorem dX5_copyFrom_55 : decode cX5_copyFrom 55 = .ok (.aload_n 0, 1) := dX5_copyFrom_r31.2.2.2.2.2.2.2.2.2.2.2.2.1
theorem dX5_copyFrom_56 : decode cX5_copyFrom 56 = .ok (.aload_n 1, 1) := dX5_copyFrom_r31.2.2.2.2.2.2.2.2.2.2.2.2.2.1
theorem dX5_copyFrom_57 : decode cX5_copyFrom 57 = .ok (.getfield 31, 3) := dX5_copyFrom_r31.2.2.2.2.2.2.2.2.2.2.2.2.2.2.1
theorem dX5_copyFrom_60 : decode cX5_copyFrom 60 = .ok (.putfield 31, 3) := dX5_copyFrom_r31.2.2.2.2.2.2.2.2.2.2.2.2.2.2.2.1
theorem dX5_copyFrom_r63 : zdcP cX5_copyFrom 63 [(.aload_n 0, 1), (.aload_n 1, 1), (.getfield 34, 3), (.putfield 34, 3), (.aload_n 0, 1), (.aload_n 1, 1), (.getfield 37, 3), (.putfield 37, 3), (.aload_n 0, 1), (.aload_n 1, 1), (.getfield 40, 3), (.putfield 40, 3), (.aload_n 0, 1), (.aload_n 1, 1), (.getfield 43, 3), (.putfield 43, 3)] := zdcA_ok (by decide +kernel)
theorem dX5_copyFrom_63 : decode cX5_copyFrom 63 = .ok (.aload_n 0, 1) := dX5_copyFrom_r63.1
theorem dX5_copyFrom_64 : decode cX5_copyFrom 64 = .ok (.aload_n 1, 1) := dX5_copyFrom_r63.2.1
theorem dX5_copyFrom_65 : decode cX5_copyFrom 65 = .ok (.getfield 34, 3) := dX5_copyFrom_r63.2.2.1
theorem dX5_copyFrom_68 : decode cX5_copyFrom 68 = .ok (.putfield 34, 3) := dX5_copyFrom_r63.2.2.2.1
theorem dX5_copyFrom_71 : decode cX5_copyFrom 71 = .ok (.aload_n 0, 1) := dX5_copyFrom_r63.2.2.2.2.1
theorem dX5_copyFrom_72 : decode cX5_copyFrom 72 = .ok (.aload_n 1, 1) := dX5_copyFrom_r63.2.2.2.2.2.1
theorem dX5_copyFrom_73 : decode cX5_copyFrom 73 = .ok (.getfield 37, 3) := dX5_copyFrom_r63.2.2.2.2.2.2.1
theorem dX5_copyFrom_76 : decode cX5_copyFrom 76 = .ok (.putfield 37, 3) := dX5_copyFrom_r63.2.2.2.2.2.2.2.1
theorem dX5_copyFrom_79 : decode cX5_copyFrom 79 = .ok (.aload_n 0, 1) := dX5_copyFrom_r63.2.2.2.2.2.2.2.2.1
theorem dX5_copyFrom_80 : decode cX5_copyFrom 80 = .ok (.aload_n 1, 1) := dX5_copyFrom_r63.2.2.2.2.2.2.2.2.2.1
theorem dX5_copyFrom_81 : decode cX5_copyFrom 81 = .ok (.getfield 40, 3) := dX5_copyFrom_r63.2.2.2.2.2.2.2.2.2.2.1
theorem dX5_copyFrom_84 : decode cX5_copyFrom 84 = .ok (.putfield 40, 3) := dX5_copyFrom_r63.2.2.2.2.2.2.2.2.2.2.2.1
theorem dX5_copyFrom_87 : decode cX5_copyFrom 87 = .ok (.aload_n 0, 1) := dX5_copyFrom_r63.2.2.2.2.2.2.2.2.2.2.2.2.1
theorem dX5_copyFrom_88 : decode cX5_copyFrom 88 = .ok (.aload_n 1, 1) := dX5_copyFrom_r63.2.2.2.2.2.2.2.2.2.2.2.2.2.1
theorem dX5_copyFrom_89 : decode cX5_copyFrom 89 = .ok (.getfield 43, 3) := dX5_copyFrom_r63.2.2.2.2.2.2.2.2.2.2.2.2.2.2.1
theorem dX5_copyFrom_92 : decode cX5_copyFrom 92 = .ok (.putfield 43, 3) := dX5_copyFrom_r63.2.2.2.2.2.2.2.2.2.2.2.2.2.2.2.1
theorem dX5_copyFrom_r95 : zdcP cX5_copyFrom 95 [(.aload_n 0, 1), (.aload_n 1, 1), (.getfield 46, 3), (.putfield 46, 3), (.return_, 1)] := zdcA_ok (by decide +kernel)
theorem dX5_copyFrom_95 : decode cX5_copyFrom 95 = .ok (.aload_n 0, 1) := dX5_copyFrom_r95.1
theorem dX5_copyFrom_96 : decode cX5_copyFrom 96 = .ok (.aload_n 1, 1) := dX5_copyFrom_r95.2.1
theorem dX5_copyFrom_97 : decode cX5_copyFrom 97 = .ok (.getfield 46, 3) := dX5_copyFrom_r95.2.2.1
theorem dX5_copyFrom_100 : decode cX5_copyFrom 100 = .ok (.putfield 46, 3) := dX5_copyFrom_r95.2.2.2.1
theorem dX5_copyFrom_103 : decode cX5_copyFrom 103 = .ok (.return_, 1) := dX5_copyFrom_r95.2.2.2.2.1
def wp_43 (w0 : Nat) (y0 : Nat) (r0 : Nat) (w1 : Nat) (y1 : Nat) (r1 : Nat) (m : zf_Me) (Q : zf_Me → Prop) : Prop := (∀ m1, m1 = zf_cp m r1 r0 0 0 6 → (∀ m3, m3 = zf_u m1 w0 2 (m1.1 w1 2) → (∀ m5, m5 = zf_u m3 w0 3 (m3.1 w1 3) → (∀ m7, m7 = zf_u m5 w0 4 (m5.1 w1 4) → (∀ m9, m9 = zf_u m7 w0 5 (m7.1 w1 5) → (∀ m11, m11 = zf_u m9 w0 6 (m9.1 w1 6) → (∀ m13, m13 = zf_u m11 w0 7 (m11.1 w1 7) → (∀ m15, m15 = zf_u m13 w0 8 (m13.1 w1 8) → (∀ m17, m17 = zf_u m15 w0 9 (m15.1 w1 9) → (∀ m19, m19 = zf_u m17 w0 10 (m17.1 w1 10) → (∀ m21, m21 = zf_u m19 w0 11 (m19.1 w1 11) → (∀ m23, m23 = zf_u m21 w0 12 (m21.1 w1 12) → Q m23))))))))))))
theorem zr_43 {d : Nat} (hd : 0 ≤ d) {w0 : Nat} {y0 : Nat} {r0 : Nat} {w1 : Nat} {y1 : Nat} {r1 : Nat} (hp0 : zf_walk w0 y0 r0) (hp1 : zf_walk w1 y1 r1) {Q : zf_Me → Prop} {m : zf_Me} (h : wp_43 w0 y0 r0 w1 y1 r1 m Q) : zf_M d 43 [.inr (.inr (1, w0)), .inr (.inr (1, w1))] m (zf_O Q) := by
  unfold wp_43 at h
  refine zf_M_of (Nat.le_of_ble_eq_true rfl) zm_43 (L := [some (.inr (.inr (1, w0))), some (.inr (.inr (1, w1)))]) rfl ?_
  refine zf_ld (pc' := 1) (v := .inr (.inr (1, w1))) dX5_copyFrom_0 rfl (fun _ _ _ => rfl) rfl rfl rfl ?_
  refine zf_gfr (pc' := 4) (b := r1) dX5_copyFrom_1 rfl rfl hp1.1 hp1.2.1 rfl ?_
  refine zf_ic (v := 0) (pc' := 5) dX5_copyFrom_4 rfl rfl ?_
  refine zf_ld (pc' := 6) (v := .inr (.inr (1, w0))) dX5_copyFrom_5 rfl (fun _ _ _ => rfl) rfl rfl rfl ?_
  refine zf_gfr (pc' := 9) (b := r0) dX5_copyFrom_6 rfl rfl hp0.1 hp0.2.1 rfl ?_
  refine zf_ic (v := 0) (pc' := 10) dX5_copyFrom_9 rfl rfl ?_
  refine zf_bi (v := 6) (pc' := 12) dX5_copyFrom_10 rfl rfl ?_
  refine zf_ac (pc' := 15) dX5_copyFrom_12 rfl rfl (q0 := _) rfl hp1.2.2.2.1 hp0.2.2.2.1 hp1.2.2.2.2 hp0.2.2.2.2 rfl (by decide) (fun m1 e2 => ?_)
  replace h := h m1 e2
  refine zf_ld (pc' := 16) (v := .inr (.inr (1, w0))) dX5_copyFrom_15 rfl (fun _ _ _ => rfl) rfl rfl rfl ?_
  refine zf_ld (pc' := 17) (v := .inr (.inr (1, w1))) dX5_copyFrom_16 rfl (fun _ _ _ => rfl) rfl rfl rfl ?_
  refine zf_gfi (pc' := 20) dX5_copyFrom_17 rfl rfl hp1.1 hp1.2.1 rfl ?_
  refine zf_pf (pc' := 23) dX5_copyFrom_20 rfl rfl hp0.1 hp0.2.1 rfl rfl (fun m3 e4 => ?_)
  replace h := h m3 e4
  refine zf_ld (pc' := 24) (v := .inr (.inr (1, w0))) dX5_copyFrom_23 rfl (fun _ _ _ => rfl) rfl rfl rfl ?_
  refine zf_ld (pc' := 25) (v := .inr (.inr (1, w1))) dX5_copyFrom_24 rfl (fun _ _ _ => rfl) rfl rfl rfl ?_
  refine zf_gfi (pc' := 28) dX5_copyFrom_25 rfl rfl hp1.1 hp1.2.1 rfl ?_
  refine zf_pf (pc' := 31) dX5_copyFrom_28 rfl rfl hp0.1 hp0.2.1 rfl rfl (fun m5 e6 => ?_)
  replace h := h m5 e6
  refine zf_ld (pc' := 32) (v := .inr (.inr (1, w0))) dX5_copyFrom_31 rfl (fun _ _ _ => rfl) rfl rfl rfl ?_
  refine zf_ld (pc' := 33) (v := .inr (.inr (1, w1))) dX5_copyFrom_32 rfl (fun _ _ _ => rfl) rfl rfl rfl ?_
  refine zf_gfi (pc' := 36) dX5_copyFrom_33 rfl rfl hp1.1 hp1.2.1 rfl ?_
  refine zf_pf (pc' := 39) dX5_copyFrom_36 rfl rfl hp0.1 hp0.2.1 rfl rfl (fun m7 e8 => ?_)
  replace h := h m7 e8
  refine zf_ld (pc' := 40) (v := .inr (.inr (1, w0))) dX5_copyFrom_39 rfl (fun _ _ _ => rfl) rfl rfl rfl ?_
  refine zf_ld (pc' := 41) (v := .inr (.inr (1, w1))) dX5_copyFrom_40 rfl (fun _ _ _ => rfl) rfl rfl rfl ?_
  refine zf_gfi (pc' := 44) dX5_copyFrom_41 rfl rfl hp1.1 hp1.2.1 rfl ?_
  refine zf_pf (pc' := 47) dX5_copyFrom_44 rfl rfl hp0.1 hp0.2.1 rfl rfl (fun m9 e10 => ?_)
  replace h := h m9 e10
  refine zf_ld (pc' := 48) (v := .inr (.inr (1, w0))) dX5_copyFrom_47 rfl (fun _ _ _ => rfl) rfl rfl rfl ?_
  refine zf_ld (pc' := 49) (v := .inr (.inr (1, w1))) dX5_copyFrom_48 rfl (fun _ _ _ => rfl) rfl rfl rfl ?_
  refine zf_gfi (pc' := 52) dX5_copyFrom_49 rfl rfl hp1.1 hp1.2.1 rfl ?_
  refine zf_pf (pc' := 55) dX5_copyFrom_52 rfl rfl hp0.1 hp0.2.1 rfl rfl (fun m11 e12 => ?_)
  replace h := h m11 e12
  refine zf_ld (pc' := 56) (v := .inr (.inr (1, w0))) dX5_copyFrom_55 rfl (fun _ _ _ => rfl) rfl rfl rfl ?_
  refine zf_ld (pc' := 57) (v := .inr (.inr (1, w1))) dX5_copyFrom_56 rfl (fun _ _ _ => rfl) rfl rfl rfl ?_
  refine zf_gfi (pc' := 60) dX5_copyFrom_57 rfl rfl hp1.1 hp1.2.1 rfl ?_
  refine zf_pf (pc' := 63) dX5_copyFrom_60 rfl rfl hp0.1 hp0.2.1 rfl rfl (fun m13 e14 => ?_)
  replace h := h m13 e14
  refine zf_ld (pc' := 64) (v := .inr (.inr (1, w0))) dX5_copyFrom_63 rfl (fun _ _ _ => rfl) rfl rfl rfl ?_
  refine zf_ld (pc' := 65) (v := .inr (.inr (1, w1))) dX5_copyFrom_64 rfl (fun _ _ _ => rfl) rfl rfl rfl ?_
  refine zf_gfi (pc' := 68) dX5_copyFrom_65 rfl rfl hp1.1 hp1.2.1 rfl ?_
  refine zf_pf (pc' := 71) dX5_copyFrom_68 rfl rfl hp0.1 hp0.2.1 rfl rfl (fun m15 e16 => ?_)
  replace h := h m15 e16
  refine zf_ld (pc' := 72) (v := .inr (.inr (1, w0))) dX5_copyFrom_71 rfl (fun _ _ _ => rfl) rfl rfl rfl ?_
  refine zf_ld (pc' := 73) (v := .inr (.inr (1, w1))) dX5_copyFrom_72 rfl (fun _ _ _ => rfl) rfl rfl rfl ?_
  refine zf_gfi (pc' := 76) dX5_copyFrom_73 rfl rfl hp1.1 hp1.2.1 rfl ?_
  refine zf_pf (pc' := 79) dX5_copyFrom_76 rfl rfl hp0.1 hp0.2.1 rfl rfl (fun m17 e18 => ?_)
  replace h := h m17 e18
  refine zf_ld (pc' := 80) (v := .inr (.inr (1, w0))) dX5_copyFrom_79 rfl (fun _ _ _ => rfl) rfl rfl rfl ?_
  refine zf_ld (pc' := 81) (v := .inr (.inr (1, w1))) dX5_copyFrom_80 rfl (fun _ _ _ => rfl) rfl rfl rfl ?_
  refine zf_gfi (pc' := 84) dX5_copyFrom_81 rfl rfl hp1.1 hp1.2.1 rfl ?_
  refine zf_pf (pc' := 87) dX5_copyFrom_84 rfl rfl hp0.1 hp0.2.1 rfl rfl (fun m19 e20 => ?_)
  replace h := h m19 e20
  refine zf_ld (pc' := 88) (v := .inr (.inr (1, w0))) dX5_copyFrom_87 rfl (fun _ _ _ => rfl) rfl rfl rfl ?_
  refine zf_ld (pc' := 89) (v := .inr (.inr (1, w1))) dX5_copyFrom_88 rfl (fun _ _ _ => rfl) rfl rfl rfl ?_
  refine zf_gfi (pc' := 92) dX5_copyFrom_89 rfl rfl hp1.1 hp1.2.1 rfl ?_
  refine zf_pf (pc' := 95) dX5_copyFrom_92 rfl rfl hp0.1 hp0.2.1 rfl rfl (fun m21 e22 => ?_)
  replace h := h m21 e22
  refine zf_ld (pc' := 96) (v := .inr (.inr (1, w0))) dX5_copyFrom_95 rfl (fun _ _ _ => rfl) rfl rfl rfl ?_
  refine zf_ld (pc' := 97) (v := .inr (.inr (1, w1))) dX5_copyFrom_96 rfl (fun _ _ _ => rfl) rfl rfl rfl ?_
  refine zf_gfi (pc' := 100) dX5_copyFrom_97 rfl rfl hp1.1 hp1.2.1 rfl ?_
  refine zf_pf (pc' := 103) dX5_copyFrom_100 rfl rfl hp0.1 hp0.2.1 rfl rfl (fun m23 e24 => ?_)
  replace h := h m23 e24
  exact zf_rv dX5_copyFrom_103 rfl h
def zt_49 : zx_MT := (5, yX5_greatestTired, cX5_greatestTired, 3, (some FieldType.int), 0, 0)
theorem zm_49 : zx_m 49 = zt_49 := rfl
theorem dX5_greatestTired_r0 : zdcP cX5_greatestTired 0 [(.iconst 0, 1), (.istore_n 1, 1), (.iconst 0, 1), (.istore_n 2, 1), (.iload_n 2, 1), (.aload_n 0, 1), (.getfield 49, 3), (.getfield 64, 3), (.if_icmp .ge 20, 3), (.iload_n 1, 1), (.aload_n 0, 1), (.getfield 9, 3), (.iload_n 2, 1), (.iaload, 1), (.invokestatic 79, 3), (.istore_n 1, 1)] := zdcA_ok (by decide +kernel)
theorem dX5_greatestTired_0 : decode cX5_greatestTired 0 = .ok (.iconst 0, 1) := dX5_greatestTired_r0.1
theorem dX5_greatestTired_1 : decode cX5_greatestTired 1 = .ok (.istore_n 1, 1) := dX5_greatestTired_r0.2.1
theorem dX5_greatestTired_2 : decode cX5_greatestTired 2 = .ok (.iconst 0, 1) := dX5_greatestTired_r0.2.2.1
theorem dX5_greatestTired_3 : decode cX5_greatestTired 3 = .ok (.istore_n 2, 1) := dX5_greatestTired_r0.2.2.2.1
theorem dX5_greatestTired_4 : decode cX5_greatestTired 4 = .ok (.iload_n 2, 1) := dX5_greatestTired_r0.2.2.2.2.1
theorem dX5_greatestTired_5 : decode cX5_greatestTired 5 = .ok (.aload_n 0, 1) := dX5_greatestTired_r0.2.2.2.2.2.1
theorem dX5_greatestTired_6 : decode cX5_greatestTired 6 = .ok (.getfield 49, 3) := dX5_greatestTired_r0.2.2.2.2.2.2.1
theorem dX5_greatestTired_9 : decode cX5_greatestTired 9 = .ok (.getfield 64, 3) := dX5_greatestTired_r0.2.2.2.2.2.2.2.1
theorem dX5_greatestTired_12 : decode cX5_greatestTired 12 = .ok (.if_icmp .ge 20, 3) := dX5_greatestTired_r0.2.2.2.2.2.2.2.2.1
theorem dX5_greatestTired_15 : decode cX5_greatestTired 15 = .ok (.iload_n 1, 1) := dX5_greatestTired_r0.2.2.2.2.2.2.2.2.2.1
theorem dX5_greatestTired_16 : decode cX5_greatestTired 16 = .ok (.aload_n 0, 1) := dX5_greatestTired_r0.2.2.2.2.2.2.2.2.2.2.1
theorem dX5_greatestTired_17 : decode cX5_greatestTired 17 = .ok (.getfield 9, 3) := dX5_greatestTired_r0.2.2.2.2.2.2.2.2.2.2.2.1
theorem dX5_greatestTired_20 : decode cX5_greatestTired 20 = .ok (.iload_n 2, 1) := dX5_greatestTired_r0.2.2.2.2.2.2.2.2.2.2.2.2.1
theorem dX5_greatestTired_21 : decode cX5_greatestTired 21 = .ok (.iaload, 1) := dX5_greatestTired_r0.2.2.2.2.2.2.2.2.2.2.2.2.2.1
theorem dX5_greatestTired_22 : decode cX5_greatestTired 22 = .ok (.invokestatic 79, 3) := dX5_greatestTired_r0.2.2.2.2.2.2.2.2.2.2.2.2.2.2.1
theorem dX5_greatestTired_25 : decode cX5_greatestTired 25 = .ok (.istore_n 1, 1) := dX5_greatestTired_r0.2.2.2.2.2.2.2.2.2.2.2.2.2.2.2.1
theorem dX5_greatestTired_r26 : zdcP cX5_greatestTired 26 [(.iinc 2 1, 3), (.goto (-25), 3), (.iload_n 1, 1), (.ireturn, 1)] := zdcA_ok (by decide +kernel)
theorem dX5_greatestTired_26 : decode cX5_greatestTired 26 = .ok (.iinc 2 1, 3) := dX5_greatestTired_r26.1
theorem dX5_greatestTired_29 : decode cX5_greatestTired 29 = .ok (.goto (-25), 3) := dX5_greatestTired_r26.2.1
theorem dX5_greatestTired_32 : decode cX5_greatestTired 32 = .ok (.iload_n 1, 1) := dX5_greatestTired_r26.2.2.1
theorem dX5_greatestTired_33 : decode cX5_greatestTired 33 = .ok (.ireturn, 1) := dX5_greatestTired_r26.2.2.2.1
def wq_49_4 (w0 : Nat) (y0 : Nat) (r0 : Nat) (Q : Int32 → zf_Me → Prop) : Nat → Int32 → Int32 → zf_Me → Prop
  | 0, _, _, _ => False
  | n + 1, v1, v2, m => ((v2.toInt ≥ ((m.1 y0 5)).toInt → Q v1 m) ∧ (v2.toInt < ((m.1 y0 5)).toInt → ((0 ≤ (Int32.toInt v2) ∧ (Int32.toInt v2) < (6 : Int)) ∧ wq_49_4 w0 y0 r0 Q n (if v1 < (m.1 r0 (Int32.toInt v2).toNat) then (m.1 r0 (Int32.toInt v2).toNat) else v1) (v2 + 1) m)))
theorem zq_49_4 {d : Nat} (hd : 0 ≤ d) {w0 : Nat} {y0 : Nat} {r0 : Nat} (hp0 : zf_walk w0 y0 r0) {Q : Int32 → zf_Me → Prop} : ∀ (n : Nat) (v1 : Int32) (v2 : Int32) (m : zf_Me), wq_49_4 w0 y0 r0 Q n v1 v2 m → zf_W none 0 0 d zt_49 4 [some (.inr (.inr (1, w0))), some (.inl v1), some (.inl v2)] [] m (zf_I Q) := by
  intro n
  induction n with
  | zero =>
    intro v1 v2 m h
    exact h.elim
  | succ n ih =>
    intro v1 v2 m h
    unfold wq_49_4 at h
    refine zf_ld (pc' := 5) (v := .inl v2) dX5_greatestTired_4 rfl (fun _ _ _ => rfl) rfl rfl rfl ?_
    refine zf_ld (pc' := 6) (v := .inr (.inr (1, w0))) dX5_greatestTired_5 rfl (fun _ _ _ => rfl) rfl rfl rfl ?_
    refine zf_gfr (pc' := 9) (b := y0) dX5_greatestTired_6 rfl rfl hp0.1 hp0.2.1 rfl ?_
    refine zf_gfi (pc' := 12) dX5_greatestTired_9 rfl rfl hp0.2.2.1.1 hp0.2.2.1.2.1 rfl ?_
    refine zf_icmp_ge (tgt := 32) (pc' := 15) dX5_greatestTired_12 rfl rfl (fun g => ?_) (fun g => ?_)
    · replace h := h.1 g
      refine zf_ld (pc' := 33) (v := .inl v1) dX5_greatestTired_32 rfl (fun _ _ _ => rfl) rfl rfl rfl ?_
      exact zf_ri dX5_greatestTired_33 rfl h
    · replace h := h.2 g
      refine zf_ld (pc' := 16) (v := .inl v1) dX5_greatestTired_15 rfl (fun _ _ _ => rfl) rfl rfl rfl ?_
      refine zf_ld (pc' := 17) (v := .inr (.inr (1, w0))) dX5_greatestTired_16 rfl (fun _ _ _ => rfl) rfl rfl rfl ?_
      refine zf_gfr (pc' := 20) (b := r0) dX5_greatestTired_17 rfl rfl hp0.1 hp0.2.1 rfl ?_
      refine zf_ld (pc' := 21) (v := .inl v2) dX5_greatestTired_20 rfl (fun _ _ _ => rfl) rfl rfl rfl ?_
      refine zf_ial (pc' := 22) dX5_greatestTired_21 rfl hp0.2.2.2.1 hp0.2.2.2.2 h.1 rfl ?_
      replace h := h.2
      refine zf_max (pc' := 25) dX5_greatestTired_22 rfl rfl rfl ?_
      refine zf_st (pc' := 26) (L2 := [some (.inr (.inr (1, w0))), some (.inl (if v1 < (m.1 r0 (Int32.toInt v2).toNat) then (m.1 r0 (Int32.toInt v2).toNat) else v1)), some (.inl v2)]) dX5_greatestTired_25 rfl (fun _ _ _ => rfl) rfl rfl rfl rfl rfl rfl ?_
      refine zf_ii (y := (v2 + 1)) (L2 := [some (.inr (.inr (1, w0))), some (.inl (if v1 < (m.1 r0 (Int32.toInt v2).toNat) then (m.1 r0 (Int32.toInt v2).toNat) else v1)), some (.inl (v2 + 1))]) (pc' := 29) dX5_greatestTired_26 rfl rfl rfl rfl rfl ?_
      refine zf_goto (tgt := 4) dX5_greatestTired_29 rfl ?_
      exact zf_lo (ih _ _ _ h) ⟨rfl, rfl, rfl, trivial⟩
def wp_49 (w0 : Nat) (y0 : Nat) (r0 : Nat) (m : zf_Me) (Q : Int32 → zf_Me → Prop) : Prop := (∃ n4, wq_49_4 w0 y0 r0 Q n4 0 0 m)
theorem zr_49 {d : Nat} (hd : 0 ≤ d) {w0 : Nat} {y0 : Nat} {r0 : Nat} (hp0 : zf_walk w0 y0 r0) {Q : Int32 → zf_Me → Prop} {m : zf_Me} (h : wp_49 w0 y0 r0 m Q) : zf_M d 49 [.inr (.inr (1, w0))] m (zf_I Q) := by
  unfold wp_49 at h
  refine zf_M_of (Nat.le_of_ble_eq_true rfl) zm_49 (L := [some (.inr (.inr (1, w0))), none, none]) rfl ?_
  refine zf_ic (v := 0) (pc' := 1) dX5_greatestTired_0 rfl rfl ?_
  refine zf_st (pc' := 2) (L2 := [some (.inr (.inr (1, w0))), some (.inl 0), none]) dX5_greatestTired_1 rfl (fun _ _ _ => rfl) rfl rfl rfl rfl rfl rfl ?_
  refine zf_ic (v := 0) (pc' := 3) dX5_greatestTired_2 rfl rfl ?_
  refine zf_st (pc' := 4) (L2 := [some (.inr (.inr (1, w0))), some (.inl 0), some (.inl 0)]) dX5_greatestTired_3 rfl (fun _ _ _ => rfl) rfl rfl rfl rfl rfl rfl ?_
  obtain ⟨n4, h⟩ := h
  exact zf_lo (zq_49_4 (by omega) hp0 n4 _ _ _ h) ⟨rfl, rfl, rfl, trivial⟩
def zt_7 : zx_MT := (1, yX1_begin, cX1_begin, 2, none, 1, 0)
theorem zm_7 : zx_m 7 = zt_7 := rfl
theorem dX1_begin_r0 : zdcP cX1_begin 0 [(.aload_n 0, 1), (.getfield 26, 3), (.aload_n 1, 1), (.invokevirtual 30, 3), (.aload_n 0, 1), (.iconst 0, 1), (.putfield 9, 3), (.aload_n 0, 1), (.iconst 0, 1), (.putfield 15, 3), (.aload_n 0, 1), (.aload_n 0, 1), (.getfield 26, 3), (.invokevirtual 34, 3), (.putfield 18, 3), (.return_, 1)] := zdcA_ok (by decide +kernel)
theorem dX1_begin_0 : decode cX1_begin 0 = .ok (.aload_n 0, 1) := dX1_begin_r0.1
theorem dX1_begin_1 : decode cX1_begin 1 = .ok (.getfield 26, 3) := dX1_begin_r0.2.1
theorem dX1_begin_4 : decode cX1_begin 4 = .ok (.aload_n 1, 1) := dX1_begin_r0.2.2.1
theorem dX1_begin_5 : decode cX1_begin 5 = .ok (.invokevirtual 30, 3) := dX1_begin_r0.2.2.2.1
theorem dX1_begin_8 : decode cX1_begin 8 = .ok (.aload_n 0, 1) := dX1_begin_r0.2.2.2.2.1
theorem dX1_begin_9 : decode cX1_begin 9 = .ok (.iconst 0, 1) := dX1_begin_r0.2.2.2.2.2.1
theorem dX1_begin_10 : decode cX1_begin 10 = .ok (.putfield 9, 3) := dX1_begin_r0.2.2.2.2.2.2.1
theorem dX1_begin_13 : decode cX1_begin 13 = .ok (.aload_n 0, 1) := dX1_begin_r0.2.2.2.2.2.2.2.1
theorem dX1_begin_14 : decode cX1_begin 14 = .ok (.iconst 0, 1) := dX1_begin_r0.2.2.2.2.2.2.2.2.1
theorem dX1_begin_15 : decode cX1_begin 15 = .ok (.putfield 15, 3) := dX1_begin_r0.2.2.2.2.2.2.2.2.2.1
theorem dX1_begin_18 : decode cX1_begin 18 = .ok (.aload_n 0, 1) := dX1_begin_r0.2.2.2.2.2.2.2.2.2.2.1
theorem dX1_begin_19 : decode cX1_begin 19 = .ok (.aload_n 0, 1) := dX1_begin_r0.2.2.2.2.2.2.2.2.2.2.2.1
theorem dX1_begin_20 : decode cX1_begin 20 = .ok (.getfield 26, 3) := dX1_begin_r0.2.2.2.2.2.2.2.2.2.2.2.2.1
theorem dX1_begin_23 : decode cX1_begin 23 = .ok (.invokevirtual 34, 3) := dX1_begin_r0.2.2.2.2.2.2.2.2.2.2.2.2.2.1
theorem dX1_begin_26 : decode cX1_begin 26 = .ok (.putfield 18, 3) := dX1_begin_r0.2.2.2.2.2.2.2.2.2.2.2.2.2.2.1
theorem dX1_begin_29 : decode cX1_begin 29 = .ok (.return_, 1) := dX1_begin_r0.2.2.2.2.2.2.2.2.2.2.2.2.2.2.2.1
def wp_7 (w1 : Nat) (y1 : Nat) (r1 : Nat) (m : zf_Me) (Q : zf_Me → Prop) : Prop := wp_43 19 3 20 w1 y1 r1 m (fun m2 => (∀ m3, m3 = zf_u m2 18 1 0 → (∀ m5, m5 = zf_u m3 18 2 0 → wp_49 19 3 20 m5 (fun x7 m8 => (∀ m9, m9 = zf_u m8 18 3 x7 → Q m9)))))
theorem zr_7 {d : Nat} (hd : 1 ≤ d) {w1 : Nat} {y1 : Nat} {r1 : Nat} (hp1 : zf_walk w1 y1 r1) {Q : zf_Me → Prop} {m : zf_Me} (h : wp_7 w1 y1 r1 m Q) : zf_M d 7 [.inr (.inr (1, 18)), .inr (.inr (1, w1))] m (zf_O Q) := by
  obtain ⟨e, rfl⟩ : ∃ z, d = z + 1 := ⟨d - 1, by omega⟩
  unfold wp_7 at h
  refine zf_M_of (Nat.le_of_ble_eq_true rfl) zm_7 (L := [some (.inr (.inr (1, 18))), some (.inr (.inr (1, w1)))]) rfl ?_
  refine zf_ld (pc' := 1) (v := .inr (.inr (1, 18))) dX1_begin_0 rfl (fun _ _ _ => rfl) rfl rfl rfl ?_
  refine zf_gfr (pc' := 4) (b := 19) dX1_begin_1 rfl rfl (by decide) rfl rfl ?_
  refine zf_ld (pc' := 5) (v := .inr (.inr (1, w1))) dX1_begin_4 rfl (fun _ _ _ => rfl) rfl rfl rfl ?_
  refine zf_iv (k := 43) (pc' := 8) (r := []) dX1_begin_5 rfl rfl rfl rfl zf_walk19.1 zf_walk19.2.1 rfl rfl (zr_43 (by omega) zf_walk19 hp1 h) (zf_kO (fun m2 h => ?_))
  refine zf_ld (pc' := 9) (v := .inr (.inr (1, 18))) dX1_begin_8 rfl (fun _ _ _ => rfl) rfl rfl rfl ?_
  refine zf_ic (v := 0) (pc' := 10) dX1_begin_9 rfl rfl ?_
  refine zf_pf (pc' := 13) dX1_begin_10 rfl rfl (by decide) rfl rfl rfl (fun m3 e4 => ?_)
  replace h := h m3 e4
  refine zf_ld (pc' := 14) (v := .inr (.inr (1, 18))) dX1_begin_13 rfl (fun _ _ _ => rfl) rfl rfl rfl ?_
  refine zf_ic (v := 0) (pc' := 15) dX1_begin_14 rfl rfl ?_
  refine zf_pf (pc' := 18) dX1_begin_15 rfl rfl (by decide) rfl rfl rfl (fun m5 e6 => ?_)
  replace h := h m5 e6
  refine zf_ld (pc' := 19) (v := .inr (.inr (1, 18))) dX1_begin_18 rfl (fun _ _ _ => rfl) rfl rfl rfl ?_
  refine zf_ld (pc' := 20) (v := .inr (.inr (1, 18))) dX1_begin_19 rfl (fun _ _ _ => rfl) rfl rfl rfl ?_
  refine zf_gfr (pc' := 23) (b := 19) dX1_begin_20 rfl rfl (by decide) rfl rfl ?_
  refine zf_iv (k := 49) (pc' := 26) (r := [.inr (.inr (1, 18))]) dX1_begin_23 rfl rfl rfl rfl zf_walk19.1 zf_walk19.2.1 rfl rfl (zr_49 (by omega) zf_walk19 h) (zf_kI (fun x7 m8 h => ?_))
  refine zf_pf (pc' := 29) dX1_begin_26 rfl rfl (by decide) rfl rfl rfl (fun m9 e10 => ?_)
  replace h := h m9 e10
  exact zf_rv dX1_begin_29 rfl h
def zt_47 : zx_MT := (5, yX5_atEnd, cX5_atEnd, 1, (some FieldType.boolean), 0, 0)
theorem zm_47 : zx_m 47 = zt_47 := rfl
theorem dX5_atEnd_r0 : zdcP cX5_atEnd 0 [(.aload_n 0, 1), (.getfield 40, 3), (.aload_n 0, 1), (.getfield 49, 3), (.getfield 76, 3), (.if_icmp .lt 7, 3), (.iconst 1, 1), (.goto 4, 3), (.iconst 0, 1), (.ireturn, 1)] := zdcA_ok (by decide +kernel)
theorem dX5_atEnd_0 : decode cX5_atEnd 0 = .ok (.aload_n 0, 1) := dX5_atEnd_r0.1
theorem dX5_atEnd_1 : decode cX5_atEnd 1 = .ok (.getfield 40, 3) := dX5_atEnd_r0.2.1
theorem dX5_atEnd_4 : decode cX5_atEnd 4 = .ok (.aload_n 0, 1) := dX5_atEnd_r0.2.2.1
theorem dX5_atEnd_5 : decode cX5_atEnd 5 = .ok (.getfield 49, 3) := dX5_atEnd_r0.2.2.2.1
theorem dX5_atEnd_8 : decode cX5_atEnd 8 = .ok (.getfield 76, 3) := dX5_atEnd_r0.2.2.2.2.1
theorem dX5_atEnd_11 : decode cX5_atEnd 11 = .ok (.if_icmp .lt 7, 3) := dX5_atEnd_r0.2.2.2.2.2.1
theorem dX5_atEnd_14 : decode cX5_atEnd 14 = .ok (.iconst 1, 1) := dX5_atEnd_r0.2.2.2.2.2.2.1
theorem dX5_atEnd_15 : decode cX5_atEnd 15 = .ok (.goto 4, 3) := dX5_atEnd_r0.2.2.2.2.2.2.2.1
theorem dX5_atEnd_18 : decode cX5_atEnd 18 = .ok (.iconst 0, 1) := dX5_atEnd_r0.2.2.2.2.2.2.2.2.1
theorem dX5_atEnd_19 : decode cX5_atEnd 19 = .ok (.ireturn, 1) := dX5_atEnd_r0.2.2.2.2.2.2.2.2.2.1
def wp_47 (w0 : Nat) (y0 : Nat) (r0 : Nat) (m : zf_Me) (Q : Bool → zf_Me → Prop) : Prop := ((((m.1 w0 10)).toInt < ((m.1 y0 4)).toInt → Q false m) ∧ (((m.1 w0 10)).toInt ≥ ((m.1 y0 4)).toInt → Q true m))
theorem zr_47 {d : Nat} (hd : 0 ≤ d) {w0 : Nat} {y0 : Nat} {r0 : Nat} (hp0 : zf_walk w0 y0 r0) {Q : Bool → zf_Me → Prop} {m : zf_Me} (h : wp_47 w0 y0 r0 m Q) : zf_M d 47 [.inr (.inr (1, w0))] m (zf_B Q) := by
  unfold wp_47 at h
  refine zf_M_of (Nat.le_of_ble_eq_true rfl) zm_47 (L := [some (.inr (.inr (1, w0)))]) rfl ?_
  refine zf_ld (pc' := 1) (v := .inr (.inr (1, w0))) dX5_atEnd_0 rfl (fun _ _ _ => rfl) rfl rfl rfl ?_
  refine zf_gfi (pc' := 4) dX5_atEnd_1 rfl rfl hp0.1 hp0.2.1 rfl ?_
  refine zf_ld (pc' := 5) (v := .inr (.inr (1, w0))) dX5_atEnd_4 rfl (fun _ _ _ => rfl) rfl rfl rfl ?_
  refine zf_gfr (pc' := 8) (b := y0) dX5_atEnd_5 rfl rfl hp0.1 hp0.2.1 rfl ?_
  refine zf_gfi (pc' := 11) dX5_atEnd_8 rfl rfl hp0.2.2.1.1 hp0.2.2.1.2.1 rfl ?_
  refine zf_icmp_lt (tgt := 18) (pc' := 14) dX5_atEnd_11 rfl rfl (fun g => ?_) (fun g => ?_)
  · replace h := h.1 g
    refine zf_ic (v := 0) (pc' := 19) dX5_atEnd_18 rfl rfl ?_
    exact zf_rb (b := false) dX5_atEnd_19 rfl h
  · replace h := h.2 g
    refine zf_ic (v := 1) (pc' := 15) dX5_atEnd_14 rfl rfl ?_
    refine zf_goto (tgt := 19) dX5_atEnd_15 rfl ?_
    exact zf_rb (b := true) dX5_atEnd_19 rfl h
def zt_48 : zx_MT := (5, yX5_asleep, cX5_asleep, 1, (some FieldType.boolean), 0, 0)
theorem zm_48 : zx_m 48 = zt_48 := rfl
theorem dX5_asleep_r0 : zdcP cX5_asleep 0 [(.aload_n 0, 1), (.getfield 28, 3), (.aload_n 0, 1), (.getfield 25, 3), (.if_icmp .lt 7, 3), (.iconst 1, 1), (.goto 4, 3), (.iconst 0, 1), (.ireturn, 1)] := zdcA_ok (by decide +kernel)
theorem dX5_asleep_0 : decode cX5_asleep 0 = .ok (.aload_n 0, 1) := dX5_asleep_r0.1
theorem dX5_asleep_1 : decode cX5_asleep 1 = .ok (.getfield 28, 3) := dX5_asleep_r0.2.1
theorem dX5_asleep_4 : decode cX5_asleep 4 = .ok (.aload_n 0, 1) := dX5_asleep_r0.2.2.1
theorem dX5_asleep_5 : decode cX5_asleep 5 = .ok (.getfield 25, 3) := dX5_asleep_r0.2.2.2.1
theorem dX5_asleep_8 : decode cX5_asleep 8 = .ok (.if_icmp .lt 7, 3) := dX5_asleep_r0.2.2.2.2.1
theorem dX5_asleep_11 : decode cX5_asleep 11 = .ok (.iconst 1, 1) := dX5_asleep_r0.2.2.2.2.2.1
theorem dX5_asleep_12 : decode cX5_asleep 12 = .ok (.goto 4, 3) := dX5_asleep_r0.2.2.2.2.2.2.1
theorem dX5_asleep_15 : decode cX5_asleep 15 = .ok (.iconst 0, 1) := dX5_asleep_r0.2.2.2.2.2.2.2.1
theorem dX5_asleep_16 : decode cX5_asleep 16 = .ok (.ireturn, 1) := dX5_asleep_r0.2.2.2.2.2.2.2.2.1
def wp_48 (w0 : Nat) (y0 : Nat) (r0 : Nat) (m : zf_Me) (Q : Bool → zf_Me → Prop) : Prop := ((((m.1 w0 6)).toInt < ((m.1 w0 5)).toInt → Q false m) ∧ (((m.1 w0 6)).toInt ≥ ((m.1 w0 5)).toInt → Q true m))
theorem zr_48 {d : Nat} (hd : 0 ≤ d) {w0 : Nat} {y0 : Nat} {r0 : Nat} (hp0 : zf_walk w0 y0 r0) {Q : Bool → zf_Me → Prop} {m : zf_Me} (h : wp_48 w0 y0 r0 m Q) : zf_M d 48 [.inr (.inr (1, w0))] m (zf_B Q) := by
  unfold wp_48 at h
  refine zf_M_of (Nat.le_of_ble_eq_true rfl) zm_48 (L := [some (.inr (.inr (1, w0)))]) rfl ?_
  refine zf_ld (pc' := 1) (v := .inr (.inr (1, w0))) dX5_asleep_0 rfl (fun _ _ _ => rfl) rfl rfl rfl ?_
  refine zf_gfi (pc' := 4) dX5_asleep_1 rfl rfl hp0.1 hp0.2.1 rfl ?_
  refine zf_ld (pc' := 5) (v := .inr (.inr (1, w0))) dX5_asleep_4 rfl (fun _ _ _ => rfl) rfl rfl rfl ?_
  refine zf_gfi (pc' := 8) dX5_asleep_5 rfl rfl hp0.1 hp0.2.1 rfl ?_
  refine zf_icmp_lt (tgt := 15) (pc' := 11) dX5_asleep_8 rfl rfl (fun g => ?_) (fun g => ?_)
  · replace h := h.1 g
    refine zf_ic (v := 0) (pc' := 16) dX5_asleep_15 rfl rfl ?_
    exact zf_rb (b := false) dX5_asleep_16 rfl h
  · replace h := h.2 g
    refine zf_ic (v := 1) (pc' := 12) dX5_asleep_11 rfl rfl ?_
    refine zf_goto (tgt := 16) dX5_asleep_12 rfl ?_
    exact zf_rb (b := true) dX5_asleep_16 rfl h
def zt_54 : zx_MT := (5, yX5_mayWalk, cX5_mayWalk, 1, (some FieldType.boolean), 0, 0)
theorem zm_54 : zx_m 54 = zt_54 := rfl
theorem dX5_mayWalk_r0 : zdcP cX5_mayWalk 0 [(.aload_n 0, 1), (.invokevirtual 99, 3), (.ifCond .ne 14, 3), (.aload_n 0, 1), (.invokevirtual 105, 3), (.ifCond .ne 7, 3), (.iconst 1, 1), (.goto 4, 3), (.iconst 0, 1), (.ireturn, 1)] := zdcA_ok (by decide +kernel)
theorem dX5_mayWalk_0 : decode cX5_mayWalk 0 = .ok (.aload_n 0, 1) := dX5_mayWalk_r0.1
theorem dX5_mayWalk_1 : decode cX5_mayWalk 1 = .ok (.invokevirtual 99, 3) := dX5_mayWalk_r0.2.1
theorem dX5_mayWalk_4 : decode cX5_mayWalk 4 = .ok (.ifCond .ne 14, 3) := dX5_mayWalk_r0.2.2.1
theorem dX5_mayWalk_7 : decode cX5_mayWalk 7 = .ok (.aload_n 0, 1) := dX5_mayWalk_r0.2.2.2.1
theorem dX5_mayWalk_8 : decode cX5_mayWalk 8 = .ok (.invokevirtual 105, 3) := dX5_mayWalk_r0.2.2.2.2.1
theorem dX5_mayWalk_11 : decode cX5_mayWalk 11 = .ok (.ifCond .ne 7, 3) := dX5_mayWalk_r0.2.2.2.2.2.1
theorem dX5_mayWalk_14 : decode cX5_mayWalk 14 = .ok (.iconst 1, 1) := dX5_mayWalk_r0.2.2.2.2.2.2.1
theorem dX5_mayWalk_15 : decode cX5_mayWalk 15 = .ok (.goto 4, 3) := dX5_mayWalk_r0.2.2.2.2.2.2.2.1
theorem dX5_mayWalk_18 : decode cX5_mayWalk 18 = .ok (.iconst 0, 1) := dX5_mayWalk_r0.2.2.2.2.2.2.2.2.1
theorem dX5_mayWalk_19 : decode cX5_mayWalk 19 = .ok (.ireturn, 1) := dX5_mayWalk_r0.2.2.2.2.2.2.2.2.2.1
def wp_54 (w0 : Nat) (y0 : Nat) (r0 : Nat) (m : zf_Me) (Q : Bool → zf_Me → Prop) : Prop := wp_47 w0 y0 r0 m (fun b1 m2 => ((b1 = true → Q false m2) ∧ (b1 = false → wp_48 w0 y0 r0 m2 (fun b3 m4 => ((b3 = true → Q false m4) ∧ (b3 = false → Q true m4))))))
theorem zr_54 {d : Nat} (hd : 1 ≤ d) {w0 : Nat} {y0 : Nat} {r0 : Nat} (hp0 : zf_walk w0 y0 r0) {Q : Bool → zf_Me → Prop} {m : zf_Me} (h : wp_54 w0 y0 r0 m Q) : zf_M d 54 [.inr (.inr (1, w0))] m (zf_B Q) := by
  obtain ⟨e, rfl⟩ : ∃ z, d = z + 1 := ⟨d - 1, by omega⟩
  unfold wp_54 at h
  refine zf_M_of (Nat.le_of_ble_eq_true rfl) zm_54 (L := [some (.inr (.inr (1, w0)))]) rfl ?_
  refine zf_ld (pc' := 1) (v := .inr (.inr (1, w0))) dX5_mayWalk_0 rfl (fun _ _ _ => rfl) rfl rfl rfl ?_
  refine zf_iv (k := 47) (pc' := 4) (r := []) dX5_mayWalk_1 rfl rfl rfl rfl hp0.1 hp0.2.1 rfl rfl (zr_47 (by omega) hp0 h) (zf_kB (fun b1 m2 h => ?_))
  refine zf_ib_ne (tgt := 18) (pc' := 7) dX5_mayWalk_4 rfl rfl (fun g => ?_) (fun g => ?_)
  · replace h := h.1 g
    refine zf_ic (v := 0) (pc' := 19) dX5_mayWalk_18 rfl rfl ?_
    exact zf_rb (b := false) dX5_mayWalk_19 rfl h
  · replace h := h.2 g
    refine zf_ld (pc' := 8) (v := .inr (.inr (1, w0))) dX5_mayWalk_7 rfl (fun _ _ _ => rfl) rfl rfl rfl ?_
    refine zf_iv (k := 48) (pc' := 11) (r := []) dX5_mayWalk_8 rfl rfl rfl rfl hp0.1 hp0.2.1 rfl rfl (zr_48 (by omega) hp0 h) (zf_kB (fun b3 m4 h => ?_))
    refine zf_ib_ne (tgt := 18) (pc' := 14) dX5_mayWalk_11 rfl rfl (fun g => ?_) (fun g => ?_)
    · replace h := h.1 g
      refine zf_ic (v := 0) (pc' := 19) dX5_mayWalk_18 rfl rfl ?_
      exact zf_rb (b := false) dX5_mayWalk_19 rfl h
    · replace h := h.2 g
      refine zf_ic (v := 1) (pc' := 15) dX5_mayWalk_14 rfl rfl ?_
      refine zf_goto (tgt := 19) dX5_mayWalk_15 rfl ?_
      exact zf_rb (b := true) dX5_mayWalk_19 rfl h
end
section
/-! part 25: methods 55..: laid by wip/flat/dec.py -/
def zt_55 : zx_MT := (5, yX5_mayRest, cX5_mayRest, 1, (some FieldType.boolean), 0, 0)
theorem zm_55 : zx_m 55 = zt_55 := rfl
theorem dX5_mayRest_r0 : zdcP cX5_mayRest 0 [(.aload_n 0, 1), (.getfield 43, 3), (.sipush 900, 3), (.if_icmp .gt 32, 3), (.aload_n 0, 1), (.getfield 40, 3), (.ifCond .eq 21, 3), (.aload_n 0, 1), (.getfield 49, 3), (.getfield 111, 3), (.aload_n 0, 1), (.getfield 40, 3), (.iconst 1, 1), (.isub, 1), (.iaload, 1), (.iconst 1, 1)] := zdcA_ok (by decide +kernel)
theorem dX5_mayRest_0 : decode cX5_mayRest 0 = .ok (.aload_n 0, 1) := dX5_mayRest_r0.1
theorem dX5_mayRest_1 : decode cX5_mayRest 1 = .ok (.getfield 43, 3) := dX5_mayRest_r0.2.1
theorem dX5_mayRest_4 : decode cX5_mayRest 4 = .ok (.sipush 900, 3) := dX5_mayRest_r0.2.2.1
theorem dX5_mayRest_7 : decode cX5_mayRest 7 = .ok (.if_icmp .gt 32, 3) := dX5_mayRest_r0.2.2.2.1
theorem dX5_mayRest_10 : decode cX5_mayRest 10 = .ok (.aload_n 0, 1) := dX5_mayRest_r0.2.2.2.2.1
theorem dX5_mayRest_11 : decode cX5_mayRest 11 = .ok (.getfield 40, 3) := dX5_mayRest_r0.2.2.2.2.2.1
theorem dX5_mayRest_14 : decode cX5_mayRest 14 = .ok (.ifCond .eq 21, 3) := dX5_mayRest_r0.2.2.2.2.2.2.1
theorem dX5_mayRest_17 : decode cX5_mayRest 17 = .ok (.aload_n 0, 1) := dX5_mayRest_r0.2.2.2.2.2.2.2.1
theorem dX5_mayRest_18 : decode cX5_mayRest 18 = .ok (.getfield 49, 3) := dX5_mayRest_r0.2.2.2.2.2.2.2.2.1
theorem dX5_mayRest_21 : decode cX5_mayRest 21 = .ok (.getfield 111, 3) := dX5_mayRest_r0.2.2.2.2.2.2.2.2.2.1
theorem dX5_mayRest_24 : decode cX5_mayRest 24 = .ok (.aload_n 0, 1) := dX5_mayRest_r0.2.2.2.2.2.2.2.2.2.2.1
theorem dX5_mayRest_25 : decode cX5_mayRest 25 = .ok (.getfield 40, 3) := dX5_mayRest_r0.2.2.2.2.2.2.2.2.2.2.2.1
theorem dX5_mayRest_28 : decode cX5_mayRest 28 = .ok (.iconst 1, 1) := dX5_mayRest_r0.2.2.2.2.2.2.2.2.2.2.2.2.1
theorem dX5_mayRest_29 : decode cX5_mayRest 29 = .ok (.isub, 1) := dX5_mayRest_r0.2.2.2.2.2.2.2.2.2.2.2.2.2.1
theorem dX5_mayRest_30 : decode cX5_mayRest 30 = .ok (.iaload, 1) := dX5_mayRest_r0.2.2.2.2.2.2.2.2.2.2.2.2.2.2.1
theorem dX5_mayRest_31 : decode cX5_mayRest 31 = .ok (.iconst 1, 1) := dX5_mayRest_r0.2.2.2.2.2.2.2.2.2.2.2.2.2.2.2.1
theorem dX5_mayRest_r32 : zdcP cX5_mayRest 32 [(.if_icmp .ne 7, 3), (.iconst 1, 1), (.goto 4, 3), (.iconst 0, 1), (.ireturn, 1)] := zdcA_ok (by decide +kernel)
theorem dX5_mayRest_32 : decode cX5_mayRest 32 = .ok (.if_icmp .ne 7, 3) := dX5_mayRest_r32.1
theorem dX5_mayRest_35 : decode cX5_mayRest 35 = .ok (.iconst 1, 1) := dX5_mayRest_r32.2.1
theorem dX5_mayRest_36 : decode cX5_mayRest 36 = .ok (.goto 4, 3) := dX5_mayRest_r32.2.2.1
theorem dX5_mayRest_39 : decode cX5_mayRest 39 = .ok (.iconst 0, 1) := dX5_mayRest_r32.2.2.2.1
theorem dX5_mayRest_40 : decode cX5_mayRest 40 = .ok (.ireturn, 1) := dX5_mayRest_r32.2.2.2.2.1
def wp_55 (w0 : Nat) (y0 : Nat) (r0 : Nat) (m : zf_Me) (Q : Bool → zf_Me → Prop) : Prop := ((((m.1 w0 11)).toInt > 900 → Q false m) ∧ (((m.1 w0 11)).toInt ≤ 900 → ((((m.1 w0 10)).toInt = 0 → Q true m) ∧ (¬ ((m.1 w0 10)).toInt = 0 → ((0 ≤ (Int32.toInt ((m.1 w0 10) - 1)) ∧ (Int32.toInt ((m.1 w0 10) - 1)) < (24 : Int)) ∧ ((¬ ((m.1 (y0 + 2) (Int32.toInt ((m.1 w0 10) - 1)).toNat)).toInt = 1 → Q false m) ∧ (((m.1 (y0 + 2) (Int32.toInt ((m.1 w0 10) - 1)).toNat)).toInt = 1 → Q true m)))))))
theorem zr_55 {d : Nat} (hd : 0 ≤ d) {w0 : Nat} {y0 : Nat} {r0 : Nat} (hp0 : zf_walk w0 y0 r0) {Q : Bool → zf_Me → Prop} {m : zf_Me} (h : wp_55 w0 y0 r0 m Q) : zf_M d 55 [.inr (.inr (1, w0))] m (zf_B Q) := by
  unfold wp_55 at h
  refine zf_M_of (Nat.le_of_ble_eq_true rfl) zm_55 (L := [some (.inr (.inr (1, w0)))]) rfl ?_
  refine zf_ld (pc' := 1) (v := .inr (.inr (1, w0))) dX5_mayRest_0 rfl (fun _ _ _ => rfl) rfl rfl rfl ?_
  refine zf_gfi (pc' := 4) dX5_mayRest_1 rfl rfl hp0.1 hp0.2.1 rfl ?_
  refine zf_si (v := 900) (pc' := 7) dX5_mayRest_4 rfl rfl ?_
  refine zf_icmp_gt (tgt := 39) (pc' := 10) dX5_mayRest_7 rfl rfl (fun g => ?_) (fun g => ?_)
  · replace h := h.1 g
    refine zf_ic (v := 0) (pc' := 40) dX5_mayRest_39 rfl rfl ?_
    exact zf_rb (b := false) dX5_mayRest_40 rfl h
  · replace h := h.2 g
    refine zf_ld (pc' := 11) (v := .inr (.inr (1, w0))) dX5_mayRest_10 rfl (fun _ _ _ => rfl) rfl rfl rfl ?_
    refine zf_gfi (pc' := 14) dX5_mayRest_11 rfl rfl hp0.1 hp0.2.1 rfl ?_
    refine zf_if_eq (tgt := 35) (pc' := 17) dX5_mayRest_14 rfl rfl (fun g => ?_) (fun g => ?_)
    · replace h := h.1 g
      refine zf_ic (v := 1) (pc' := 36) dX5_mayRest_35 rfl rfl ?_
      refine zf_goto (tgt := 40) dX5_mayRest_36 rfl ?_
      exact zf_rb (b := true) dX5_mayRest_40 rfl h
    · replace h := h.2 g
      refine zf_ld (pc' := 18) (v := .inr (.inr (1, w0))) dX5_mayRest_17 rfl (fun _ _ _ => rfl) rfl rfl rfl ?_
      refine zf_gfr (pc' := 21) (b := y0) dX5_mayRest_18 rfl rfl hp0.1 hp0.2.1 rfl ?_
      refine zf_gfr (pc' := 24) (b := (y0 + 2)) dX5_mayRest_21 rfl rfl hp0.2.2.1.1 hp0.2.2.1.2.1 rfl ?_
      refine zf_ld (pc' := 25) (v := .inr (.inr (1, w0))) dX5_mayRest_24 rfl (fun _ _ _ => rfl) rfl rfl rfl ?_
      refine zf_gfi (pc' := 28) dX5_mayRest_25 rfl rfl hp0.1 hp0.2.1 rfl ?_
      refine zf_ic (v := 1) (pc' := 29) dX5_mayRest_28 rfl rfl ?_
      refine zf_in (pc' := 30) (S' := [.inl ((m.1 w0 10) - 1), .inr (.inr (1, (y0 + 2)))]) dX5_mayRest_29 rfl (fun _ _ _ => rfl) ?_
      refine zf_ial (pc' := 31) dX5_mayRest_30 rfl hp0.2.2.1.2.2.2.1.1 hp0.2.2.1.2.2.2.1.2 h.1 rfl ?_
      replace h := h.2
      refine zf_ic (v := 1) (pc' := 32) dX5_mayRest_31 rfl rfl ?_
      refine zf_icmp_ne (tgt := 39) (pc' := 35) dX5_mayRest_32 rfl rfl (fun g => ?_) (fun g => ?_)
      · replace h := h.1 g
        refine zf_ic (v := 0) (pc' := 40) dX5_mayRest_39 rfl rfl ?_
        exact zf_rb (b := false) dX5_mayRest_40 rfl h
      · replace h := h.2 g
        refine zf_ic (v := 1) (pc' := 36) dX5_mayRest_35 rfl rfl ?_
        refine zf_goto (tgt := 40) dX5_mayRest_36 rfl ?_
        exact zf_rb (b := true) dX5_mayRest_40 rfl h
def zt_65 : zx_MT := (6, yX6_hasPerson, cX6_hasPerson, 2, (some FieldType.boolean), 1, 0)
theorem zm_65 : zx_m 65 = zt_65 := rfl
theorem dX6_hasPerson_r0 : zdcP cX6_hasPerson 0 [(.iload_n 1, 1), (.ifCond .lt 15, 3), (.iload_n 1, 1), (.aload_n 0, 1), (.getfield 28, 3), (.if_icmp .ge 7, 3), (.iconst 1, 1), (.goto 4, 3), (.iconst 0, 1), (.ireturn, 1)] := zdcA_ok (by decide +kernel)
theorem dX6_hasPerson_0 : decode cX6_hasPerson 0 = .ok (.iload_n 1, 1) := dX6_hasPerson_r0.1
theorem dX6_hasPerson_1 : decode cX6_hasPerson 1 = .ok (.ifCond .lt 15, 3) := dX6_hasPerson_r0.2.1
theorem dX6_hasPerson_4 : decode cX6_hasPerson 4 = .ok (.iload_n 1, 1) := dX6_hasPerson_r0.2.2.1
theorem dX6_hasPerson_5 : decode cX6_hasPerson 5 = .ok (.aload_n 0, 1) := dX6_hasPerson_r0.2.2.2.1
theorem dX6_hasPerson_6 : decode cX6_hasPerson 6 = .ok (.getfield 28, 3) := dX6_hasPerson_r0.2.2.2.2.1
theorem dX6_hasPerson_9 : decode cX6_hasPerson 9 = .ok (.if_icmp .ge 7, 3) := dX6_hasPerson_r0.2.2.2.2.2.1
theorem dX6_hasPerson_12 : decode cX6_hasPerson 12 = .ok (.iconst 1, 1) := dX6_hasPerson_r0.2.2.2.2.2.2.1
theorem dX6_hasPerson_13 : decode cX6_hasPerson 13 = .ok (.goto 4, 3) := dX6_hasPerson_r0.2.2.2.2.2.2.2.1
theorem dX6_hasPerson_16 : decode cX6_hasPerson 16 = .ok (.iconst 0, 1) := dX6_hasPerson_r0.2.2.2.2.2.2.2.2.1
theorem dX6_hasPerson_17 : decode cX6_hasPerson 17 = .ok (.ireturn, 1) := dX6_hasPerson_r0.2.2.2.2.2.2.2.2.2.1
def wp_65 (y0 : Nat) (v1 : Int32) (m : zf_Me) (Q : Bool → zf_Me → Prop) : Prop := ((v1.toInt < 0 → Q false m) ∧ (v1.toInt ≥ 0 → ((v1.toInt ≥ ((m.1 y0 5)).toInt → Q false m) ∧ (v1.toInt < ((m.1 y0 5)).toInt → Q true m))))
theorem zr_65 {d : Nat} (hd : 0 ≤ d) {y0 : Nat} (hp0 : zf_way y0) {v1 : Int32} {Q : Bool → zf_Me → Prop} {m : zf_Me} (h : wp_65 y0 v1 m Q) : zf_M d 65 [.inr (.inr (1, y0)), .inl v1] m (zf_B Q) := by
  unfold wp_65 at h
  refine zf_M_of (Nat.le_of_ble_eq_true rfl) zm_65 (L := [some (.inr (.inr (1, y0))), some (.inl v1)]) rfl ?_
  refine zf_ld (pc' := 1) (v := .inl v1) dX6_hasPerson_0 rfl (fun _ _ _ => rfl) rfl rfl rfl ?_
  refine zf_if_lt (tgt := 16) (pc' := 4) dX6_hasPerson_1 rfl rfl (fun g => ?_) (fun g => ?_)
  · replace h := h.1 g
    refine zf_ic (v := 0) (pc' := 17) dX6_hasPerson_16 rfl rfl ?_
    exact zf_rb (b := false) dX6_hasPerson_17 rfl h
  · replace h := h.2 g
    refine zf_ld (pc' := 5) (v := .inl v1) dX6_hasPerson_4 rfl (fun _ _ _ => rfl) rfl rfl rfl ?_
    refine zf_ld (pc' := 6) (v := .inr (.inr (1, y0))) dX6_hasPerson_5 rfl (fun _ _ _ => rfl) rfl rfl rfl ?_
    refine zf_gfi (pc' := 9) dX6_hasPerson_6 rfl rfl hp0.1 hp0.2.1 rfl ?_
    refine zf_icmp_ge (tgt := 16) (pc' := 12) dX6_hasPerson_9 rfl rfl (fun g => ?_) (fun g => ?_)
    · replace h := h.1 g
      refine zf_ic (v := 0) (pc' := 17) dX6_hasPerson_16 rfl rfl ?_
      exact zf_rb (b := false) dX6_hasPerson_17 rfl h
    · replace h := h.2 g
      refine zf_ic (v := 1) (pc' := 13) dX6_hasPerson_12 rfl rfl ?_
      refine zf_goto (tgt := 17) dX6_hasPerson_13 rfl ?_
      exact zf_rb (b := true) dX6_hasPerson_17 rfl h
def zt_51 : zx_MT := (5, yX5_loadOnSlope, cX5_loadOnSlope, 5, (some FieldType.int), 2, 0)
theorem zm_51 : zx_m 51 = zt_51 := rfl
theorem dX5_loadOnSlope_r0 : zdcP cX5_loadOnSlope 0 [(.aload_n 0, 1), (.getfield 49, 3), (.getfield 59, 3), (.iload_n 1, 1), (.iaload, 1), (.istore_n 3, 1), (.iconst 4, 1), (.iload_n 2, 1), (.iadd, 1), (.getstatic 82, 3), (.iload_n 3, 1), (.iaload, 1), (.iadd, 1), (.istore 4, 2), (.iload_n 3, 1), (.bipush 6, 2)] := zdcA_ok (by decide +kernel)
theorem dX5_loadOnSlope_0 : decode cX5_loadOnSlope 0 = .ok (.aload_n 0, 1) := dX5_loadOnSlope_r0.1
theorem dX5_loadOnSlope_1 : decode cX5_loadOnSlope 1 = .ok (.getfield 49, 3) := dX5_loadOnSlope_r0.2.1
theorem dX5_loadOnSlope_4 : decode cX5_loadOnSlope 4 = .ok (.getfield 59, 3) := dX5_loadOnSlope_r0.2.2.1
theorem dX5_loadOnSlope_7 : decode cX5_loadOnSlope 7 = .ok (.iload_n 1, 1) := dX5_loadOnSlope_r0.2.2.2.1
theorem dX5_loadOnSlope_8 : decode cX5_loadOnSlope 8 = .ok (.iaload, 1) := dX5_loadOnSlope_r0.2.2.2.2.1
theorem dX5_loadOnSlope_9 : decode cX5_loadOnSlope 9 = .ok (.istore_n 3, 1) := dX5_loadOnSlope_r0.2.2.2.2.2.1
theorem dX5_loadOnSlope_10 : decode cX5_loadOnSlope 10 = .ok (.iconst 4, 1) := dX5_loadOnSlope_r0.2.2.2.2.2.2.1
theorem dX5_loadOnSlope_11 : decode cX5_loadOnSlope 11 = .ok (.iload_n 2, 1) := dX5_loadOnSlope_r0.2.2.2.2.2.2.2.1
theorem dX5_loadOnSlope_12 : decode cX5_loadOnSlope 12 = .ok (.iadd, 1) := dX5_loadOnSlope_r0.2.2.2.2.2.2.2.2.1
theorem dX5_loadOnSlope_13 : decode cX5_loadOnSlope 13 = .ok (.getstatic 82, 3) := dX5_loadOnSlope_r0.2.2.2.2.2.2.2.2.2.1
theorem dX5_loadOnSlope_16 : decode cX5_loadOnSlope 16 = .ok (.iload_n 3, 1) := dX5_loadOnSlope_r0.2.2.2.2.2.2.2.2.2.2.1
theorem dX5_loadOnSlope_17 : decode cX5_loadOnSlope 17 = .ok (.iaload, 1) := dX5_loadOnSlope_r0.2.2.2.2.2.2.2.2.2.2.2.1
theorem dX5_loadOnSlope_18 : decode cX5_loadOnSlope 18 = .ok (.iadd, 1) := dX5_loadOnSlope_r0.2.2.2.2.2.2.2.2.2.2.2.2.1
theorem dX5_loadOnSlope_19 : decode cX5_loadOnSlope 19 = .ok (.istore 4, 2) := dX5_loadOnSlope_r0.2.2.2.2.2.2.2.2.2.2.2.2.2.1
theorem dX5_loadOnSlope_21 : decode cX5_loadOnSlope 21 = .ok (.iload_n 3, 1) := dX5_loadOnSlope_r0.2.2.2.2.2.2.2.2.2.2.2.2.2.2.1
theorem dX5_loadOnSlope_22 : decode cX5_loadOnSlope 22 = .ok (.bipush 6, 2) := dX5_loadOnSlope_r0.2.2.2.2.2.2.2.2.2.2.2.2.2.2.2.1
theorem dX5_loadOnSlope_r24 : zdcP cX5_loadOnSlope 24 [(.if_icmp .ne 17, 3), (.iload 4, 2), (.aload_n 0, 1), (.getfield 9, 3), (.iload_n 1, 1), (.iaload, 1), (.bipush 10, 2), (.idiv, 1), (.iadd, 1), (.istore 4, 2), (.aload_n 0, 1), (.getfield 15, 3), (.iload_n 1, 1), (.if_icmp .ne 6, 3), (.iinc 4 2, 3), (.iload 4, 2)] := zdcA_ok (by decide +kernel)
theorem dX5_loadOnSlope_24 : decode cX5_loadOnSlope 24 = .ok (.if_icmp .ne 17, 3) := dX5_loadOnSlope_r24.1
theorem dX5_loadOnSlope_27 : decode cX5_loadOnSlope 27 = .ok (.iload 4, 2) := dX5_loadOnSlope_r24.2.1
theorem dX5_loadOnSlope_29 : decode cX5_loadOnSlope 29 = .ok (.aload_n 0, 1) := dX5_loadOnSlope_r24.2.2.1
theorem dX5_loadOnSlope_30 : decode cX5_loadOnSlope 30 = .ok (.getfield 9, 3) := dX5_loadOnSlope_r24.2.2.2.1
theorem dX5_loadOnSlope_33 : decode cX5_loadOnSlope 33 = .ok (.iload_n 1, 1) := dX5_loadOnSlope_r24.2.2.2.2.1
theorem dX5_loadOnSlope_34 : decode cX5_loadOnSlope 34 = .ok (.iaload, 1) := dX5_loadOnSlope_r24.2.2.2.2.2.1
theorem dX5_loadOnSlope_35 : decode cX5_loadOnSlope 35 = .ok (.bipush 10, 2) := dX5_loadOnSlope_r24.2.2.2.2.2.2.1
theorem dX5_loadOnSlope_37 : decode cX5_loadOnSlope 37 = .ok (.idiv, 1) := dX5_loadOnSlope_r24.2.2.2.2.2.2.2.1
theorem dX5_loadOnSlope_38 : decode cX5_loadOnSlope 38 = .ok (.iadd, 1) := dX5_loadOnSlope_r24.2.2.2.2.2.2.2.2.1
theorem dX5_loadOnSlope_39 : decode cX5_loadOnSlope 39 = .ok (.istore 4, 2) := dX5_loadOnSlope_r24.2.2.2.2.2.2.2.2.2.1
theorem dX5_loadOnSlope_41 : decode cX5_loadOnSlope 41 = .ok (.aload_n 0, 1) := dX5_loadOnSlope_r24.2.2.2.2.2.2.2.2.2.2.1
theorem dX5_loadOnSlope_42 : decode cX5_loadOnSlope 42 = .ok (.getfield 15, 3) := dX5_loadOnSlope_r24.2.2.2.2.2.2.2.2.2.2.2.1
theorem dX5_loadOnSlope_45 : decode cX5_loadOnSlope 45 = .ok (.iload_n 1, 1) := dX5_loadOnSlope_r24.2.2.2.2.2.2.2.2.2.2.2.2.1
theorem dX5_loadOnSlope_46 : decode cX5_loadOnSlope 46 = .ok (.if_icmp .ne 6, 3) := dX5_loadOnSlope_r24.2.2.2.2.2.2.2.2.2.2.2.2.2.1
theorem dX5_loadOnSlope_49 : decode cX5_loadOnSlope 49 = .ok (.iinc 4 2, 3) := dX5_loadOnSlope_r24.2.2.2.2.2.2.2.2.2.2.2.2.2.2.1
theorem dX5_loadOnSlope_52 : decode cX5_loadOnSlope 52 = .ok (.iload 4, 2) := dX5_loadOnSlope_r24.2.2.2.2.2.2.2.2.2.2.2.2.2.2.2.1
theorem dX5_loadOnSlope_r54 : zdcP cX5_loadOnSlope 54 [(.iconst 1, 1), (.if_icmp .ge 7, 3), (.iconst 1, 1), (.goto 5, 3), (.iload 4, 2), (.ireturn, 1)] := zdcA_ok (by decide +kernel)
theorem dX5_loadOnSlope_54 : decode cX5_loadOnSlope 54 = .ok (.iconst 1, 1) := dX5_loadOnSlope_r54.1
theorem dX5_loadOnSlope_55 : decode cX5_loadOnSlope 55 = .ok (.if_icmp .ge 7, 3) := dX5_loadOnSlope_r54.2.1
theorem dX5_loadOnSlope_58 : decode cX5_loadOnSlope 58 = .ok (.iconst 1, 1) := dX5_loadOnSlope_r54.2.2.1
theorem dX5_loadOnSlope_59 : decode cX5_loadOnSlope 59 = .ok (.goto 5, 3) := dX5_loadOnSlope_r54.2.2.2.1
theorem dX5_loadOnSlope_62 : decode cX5_loadOnSlope 62 = .ok (.iload 4, 2) := dX5_loadOnSlope_r54.2.2.2.2.1
theorem dX5_loadOnSlope_64 : decode cX5_loadOnSlope 64 = .ok (.ireturn, 1) := dX5_loadOnSlope_r54.2.2.2.2.2.1
def wq_51_52 (w0 : Nat) (y0 : Nat) (r0 : Nat) (v1 : Int32) (v2 : Int32) (v4 : Int32) (m : zf_Me) (Q : Int32 → zf_Me → Prop) : Prop := ((v4.toInt ≥ 1 → Q v4 m) ∧ (v4.toInt < 1 → Q 1 m))
theorem zq_51_52 {d : Nat} (hd : 0 ≤ d) {w0 : Nat} {y0 : Nat} {r0 : Nat} (hp0 : zf_walk w0 y0 r0) {v1 : Int32} {v2 : Int32} {Q : Int32 → zf_Me → Prop} {v4 : Int32} {m : zf_Me} (h : wq_51_52 w0 y0 r0 v1 v2 v4 m Q) : zf_W none 0 0 d zt_51 52 [none, none, none, none, some (.inl v4)] [] m (zf_I Q) := by
  unfold wq_51_52 at h
  refine zf_ld (pc' := 54) (v := .inl v4) dX5_loadOnSlope_52 rfl (fun _ _ _ => rfl) rfl rfl rfl ?_
  refine zf_ic (v := 1) (pc' := 55) dX5_loadOnSlope_54 rfl rfl ?_
  refine zf_icmp_ge (tgt := 62) (pc' := 58) dX5_loadOnSlope_55 rfl rfl (fun g => ?_) (fun g => ?_)
  · replace h := h.1 g
    refine zf_ld (pc' := 64) (v := .inl v4) dX5_loadOnSlope_62 rfl (fun _ _ _ => rfl) rfl rfl rfl ?_
    exact zf_ri dX5_loadOnSlope_64 rfl h
  · replace h := h.2 g
    refine zf_ic (v := 1) (pc' := 59) dX5_loadOnSlope_58 rfl rfl ?_
    refine zf_goto (tgt := 64) dX5_loadOnSlope_59 rfl ?_
    exact zf_ri dX5_loadOnSlope_64 rfl h
def wq_51_41 (w0 : Nat) (y0 : Nat) (r0 : Nat) (v1 : Int32) (v2 : Int32) (v4 : Int32) (m : zf_Me) (Q : Int32 → zf_Me → Prop) : Prop := ((¬ ((m.1 w0 2)).toInt = v1.toInt → wq_51_52 w0 y0 r0 v1 v2 v4 m Q) ∧ (((m.1 w0 2)).toInt = v1.toInt → wq_51_52 w0 y0 r0 v1 v2 (v4 + 2) m Q))
theorem zq_51_41 {d : Nat} (hd : 0 ≤ d) {w0 : Nat} {y0 : Nat} {r0 : Nat} (hp0 : zf_walk w0 y0 r0) {v1 : Int32} {v2 : Int32} {Q : Int32 → zf_Me → Prop} {v4 : Int32} {m : zf_Me} (h : wq_51_41 w0 y0 r0 v1 v2 v4 m Q) : zf_W none 0 0 d zt_51 41 [some (.inr (.inr (1, w0))), some (.inl v1), none, none, some (.inl v4)] [] m (zf_I Q) := by
  unfold wq_51_41 at h
  refine zf_ld (pc' := 42) (v := .inr (.inr (1, w0))) dX5_loadOnSlope_41 rfl (fun _ _ _ => rfl) rfl rfl rfl ?_
  refine zf_gfi (pc' := 45) dX5_loadOnSlope_42 rfl rfl hp0.1 hp0.2.1 rfl ?_
  refine zf_ld (pc' := 46) (v := .inl v1) dX5_loadOnSlope_45 rfl (fun _ _ _ => rfl) rfl rfl rfl ?_
  refine zf_icmp_ne (tgt := 52) (pc' := 49) dX5_loadOnSlope_46 rfl rfl (fun g => ?_) (fun g => ?_)
  · replace h := h.1 g
    exact zf_lo (zq_51_52 (by omega) hp0 h) ⟨rfl, trivial⟩
  · replace h := h.2 g
    refine zf_ii (y := (v4 + 2)) (L2 := [some (.inr (.inr (1, w0))), some (.inl v1), none, none, some (.inl (v4 + 2))]) (pc' := 52) dX5_loadOnSlope_49 rfl rfl rfl rfl rfl ?_
    exact zf_lo (zq_51_52 (by omega) hp0 h) ⟨rfl, trivial⟩
def wp_51 (w0 : Nat) (y0 : Nat) (r0 : Nat) (v1 : Int32) (v2 : Int32) (m : zf_Me) (Q : Int32 → zf_Me → Prop) : Prop := ((0 ≤ (Int32.toInt v1) ∧ (Int32.toInt v1) < (6 : Int)) ∧ ((0 ≤ ((m.1 (y0 + 3) (Int32.toInt v1).toNat)).toInt ∧ ((m.1 (y0 + 3) (Int32.toInt v1).toNat)).toInt < 7) ∧ ((¬ ((m.1 (y0 + 3) (Int32.toInt v1).toNat)).toInt = 6 → wq_51_41 w0 y0 r0 v1 v2 ((4 + v2) + ((zx_sa.getD 1 []).getD (Int32.toInt (m.1 (y0 + 3) (Int32.toInt v1).toNat)).toNat 0)) m Q) ∧ (((m.1 (y0 + 3) (Int32.toInt v1).toNat)).toInt = 6 → ((0 ≤ (Int32.toInt v1) ∧ (Int32.toInt v1) < (6 : Int)) ∧ wq_51_41 w0 y0 r0 v1 v2 (((4 + v2) + ((zx_sa.getD 1 []).getD (Int32.toInt (m.1 (y0 + 3) (Int32.toInt v1).toNat)).toNat 0)) + ((m.1 r0 (Int32.toInt v1).toNat) / 10)) m Q)))))
theorem zr_51 {d : Nat} (hd : 0 ≤ d) {w0 : Nat} {y0 : Nat} {r0 : Nat} (hp0 : zf_walk w0 y0 r0) {v1 : Int32} {v2 : Int32} {Q : Int32 → zf_Me → Prop} {m : zf_Me} (h : wp_51 w0 y0 r0 v1 v2 m Q) : zf_M d 51 [.inr (.inr (1, w0)), .inl v1, .inl v2] m (zf_I Q) := by
  unfold wp_51 at h
  refine zf_M_of (Nat.le_of_ble_eq_true rfl) zm_51 (L := [some (.inr (.inr (1, w0))), some (.inl v1), some (.inl v2), none, none]) rfl ?_
  refine zf_ld (pc' := 1) (v := .inr (.inr (1, w0))) dX5_loadOnSlope_0 rfl (fun _ _ _ => rfl) rfl rfl rfl ?_
  refine zf_gfr (pc' := 4) (b := y0) dX5_loadOnSlope_1 rfl rfl hp0.1 hp0.2.1 rfl ?_
  refine zf_gfr (pc' := 7) (b := (y0 + 3)) dX5_loadOnSlope_4 rfl rfl hp0.2.2.1.1 hp0.2.2.1.2.1 rfl ?_
  refine zf_ld (pc' := 8) (v := .inl v1) dX5_loadOnSlope_7 rfl (fun _ _ _ => rfl) rfl rfl rfl ?_
  refine zf_ial (pc' := 9) dX5_loadOnSlope_8 rfl hp0.2.2.1.2.2.2.2.1.1 hp0.2.2.1.2.2.2.2.1.2 h.1 rfl ?_
  replace h := h.2
  refine zf_st (pc' := 10) (L2 := [some (.inr (.inr (1, w0))), some (.inl v1), some (.inl v2), some (.inl (m.1 (y0 + 3) (Int32.toInt v1).toNat)), none]) dX5_loadOnSlope_9 rfl (fun _ _ _ => rfl) rfl rfl rfl rfl rfl rfl ?_
  refine zf_ic (v := 4) (pc' := 11) dX5_loadOnSlope_10 rfl rfl ?_
  refine zf_ld (pc' := 12) (v := .inl v2) dX5_loadOnSlope_11 rfl (fun _ _ _ => rfl) rfl rfl rfl ?_
  refine zf_in (pc' := 13) (S' := [.inl (4 + v2)]) dX5_loadOnSlope_12 rfl (fun _ _ _ => rfl) ?_
  refine zf_gs (g := 1) (pc' := 16) dX5_loadOnSlope_13 rfl rfl rfl ?_
  refine zf_ld (pc' := 17) (v := .inl (m.1 (y0 + 3) (Int32.toInt v1).toNat)) dX5_loadOnSlope_16 rfl (fun _ _ _ => rfl) rfl rfl rfl ?_
  refine zf_ials (pc' := 18) dX5_loadOnSlope_17 rfl (by decide) (n := 7) rfl h.1 ?_
  replace h := h.2
  refine zf_in (pc' := 19) (S' := [.inl ((4 + v2) + ((zx_sa.getD 1 []).getD (Int32.toInt (m.1 (y0 + 3) (Int32.toInt v1).toNat)).toNat 0))]) dX5_loadOnSlope_18 rfl (fun _ _ _ => rfl) ?_
  refine zf_st (pc' := 21) (L2 := [some (.inr (.inr (1, w0))), some (.inl v1), some (.inl v2), some (.inl (m.1 (y0 + 3) (Int32.toInt v1).toNat)), some (.inl ((4 + v2) + ((zx_sa.getD 1 []).getD (Int32.toInt (m.1 (y0 + 3) (Int32.toInt v1).toNat)).toNat 0)))]) dX5_loadOnSlope_19 rfl (fun _ _ _ => rfl) rfl rfl rfl rfl rfl rfl ?_
  refine zf_ld (pc' := 22) (v := .inl (m.1 (y0 + 3) (Int32.toInt v1).toNat)) dX5_loadOnSlope_21 rfl (fun _ _ _ => rfl) rfl rfl rfl ?_
  refine zf_bi (v := 6) (pc' := 24) dX5_loadOnSlope_22 rfl rfl ?_
  refine zf_icmp_ne (tgt := 41) (pc' := 27) dX5_loadOnSlope_24 rfl rfl (fun g => ?_) (fun g => ?_)
  · replace h := h.1 g
    exact zf_lo (zq_51_41 (by omega) hp0 h) ⟨rfl, rfl, rfl, trivial⟩
  · replace h := h.2 g
    refine zf_ld (pc' := 29) (v := .inl ((4 + v2) + ((zx_sa.getD 1 []).getD (Int32.toInt (m.1 (y0 + 3) (Int32.toInt v1).toNat)).toNat 0))) dX5_loadOnSlope_27 rfl (fun _ _ _ => rfl) rfl rfl rfl ?_
    refine zf_ld (pc' := 30) (v := .inr (.inr (1, w0))) dX5_loadOnSlope_29 rfl (fun _ _ _ => rfl) rfl rfl rfl ?_
    refine zf_gfr (pc' := 33) (b := r0) dX5_loadOnSlope_30 rfl rfl hp0.1 hp0.2.1 rfl ?_
    refine zf_ld (pc' := 34) (v := .inl v1) dX5_loadOnSlope_33 rfl (fun _ _ _ => rfl) rfl rfl rfl ?_
    refine zf_ial (pc' := 35) dX5_loadOnSlope_34 rfl hp0.2.2.2.1 hp0.2.2.2.2 h.1 rfl ?_
    replace h := h.2
    refine zf_bi (v := 10) (pc' := 37) dX5_loadOnSlope_35 rfl rfl ?_
    refine zf_div (pc' := 38) dX5_loadOnSlope_37 rfl (by decide) ?_
    refine zf_in (pc' := 39) (S' := [.inl (((4 + v2) + ((zx_sa.getD 1 []).getD (Int32.toInt (m.1 (y0 + 3) (Int32.toInt v1).toNat)).toNat 0)) + ((m.1 r0 (Int32.toInt v1).toNat) / 10))]) dX5_loadOnSlope_38 rfl (fun _ _ _ => rfl) ?_
    refine zf_st (pc' := 41) (L2 := [some (.inr (.inr (1, w0))), some (.inl v1), some (.inl v2), some (.inl (m.1 (y0 + 3) (Int32.toInt v1).toNat)), some (.inl (((4 + v2) + ((zx_sa.getD 1 []).getD (Int32.toInt (m.1 (y0 + 3) (Int32.toInt v1).toNat)).toNat 0)) + ((m.1 r0 (Int32.toInt v1).toNat) / 10)))]) dX5_loadOnSlope_39 rfl (fun _ _ _ => rfl) rfl rfl rfl rfl rfl rfl ?_
    exact zf_lo (zq_51_41 (by omega) hp0 h) ⟨rfl, rfl, rfl, trivial⟩
def zt_53 : zx_MT := (5, yX5_mayCarry, cX5_mayCarry, 4, (some FieldType.boolean), 1, 0)
theorem zm_53 : zx_m 53 = zt_53 := rfl
theorem dX5_mayCarry_r0 : zdcP cX5_mayCarry 0 [(.aload_n 0, 1), (.getfield 49, 3), (.iload_n 1, 1), (.invokevirtual 96, 3), (.ifCond .eq 10, 3), (.aload_n 0, 1), (.invokevirtual 99, 3), (.ifCond .eq 5, 3), (.iconst 0, 1), (.ireturn, 1), (.aload_n 0, 1), (.getfield 49, 3), (.getfield 59, 3), (.iload_n 1, 1), (.iaload, 1), (.istore_n 2, 1)] := zdcA_ok (by decide +kernel)
theorem dX5_mayCarry_0 : decode cX5_mayCarry 0 = .ok (.aload_n 0, 1) := dX5_mayCarry_r0.1
theorem dX5_mayCarry_1 : decode cX5_mayCarry 1 = .ok (.getfield 49, 3) := dX5_mayCarry_r0.2.1
theorem dX5_mayCarry_4 : decode cX5_mayCarry 4 = .ok (.iload_n 1, 1) := dX5_mayCarry_r0.2.2.1
theorem dX5_mayCarry_5 : decode cX5_mayCarry 5 = .ok (.invokevirtual 96, 3) := dX5_mayCarry_r0.2.2.2.1
theorem dX5_mayCarry_8 : decode cX5_mayCarry 8 = .ok (.ifCond .eq 10, 3) := dX5_mayCarry_r0.2.2.2.2.1
theorem dX5_mayCarry_11 : decode cX5_mayCarry 11 = .ok (.aload_n 0, 1) := dX5_mayCarry_r0.2.2.2.2.2.1
theorem dX5_mayCarry_12 : decode cX5_mayCarry 12 = .ok (.invokevirtual 99, 3) := dX5_mayCarry_r0.2.2.2.2.2.2.1
theorem dX5_mayCarry_15 : decode cX5_mayCarry 15 = .ok (.ifCond .eq 5, 3) := dX5_mayCarry_r0.2.2.2.2.2.2.2.1
theorem dX5_mayCarry_18 : decode cX5_mayCarry 18 = .ok (.iconst 0, 1) := dX5_mayCarry_r0.2.2.2.2.2.2.2.2.1
theorem dX5_mayCarry_19 : decode cX5_mayCarry 19 = .ok (.ireturn, 1) := dX5_mayCarry_r0.2.2.2.2.2.2.2.2.2.1
theorem dX5_mayCarry_20 : decode cX5_mayCarry 20 = .ok (.aload_n 0, 1) := dX5_mayCarry_r0.2.2.2.2.2.2.2.2.2.2.1
theorem dX5_mayCarry_21 : decode cX5_mayCarry 21 = .ok (.getfield 49, 3) := dX5_mayCarry_r0.2.2.2.2.2.2.2.2.2.2.2.1
theorem dX5_mayCarry_24 : decode cX5_mayCarry 24 = .ok (.getfield 59, 3) := dX5_mayCarry_r0.2.2.2.2.2.2.2.2.2.2.2.2.1
theorem dX5_mayCarry_27 : decode cX5_mayCarry 27 = .ok (.iload_n 1, 1) := dX5_mayCarry_r0.2.2.2.2.2.2.2.2.2.2.2.2.2.1
theorem dX5_mayCarry_28 : decode cX5_mayCarry 28 = .ok (.iaload, 1) := dX5_mayCarry_r0.2.2.2.2.2.2.2.2.2.2.2.2.2.2.1
theorem dX5_mayCarry_29 : decode cX5_mayCarry 29 = .ok (.istore_n 2, 1) := dX5_mayCarry_r0.2.2.2.2.2.2.2.2.2.2.2.2.2.2.2.1
theorem dX5_mayCarry_r30 : zdcP cX5_mayCarry 30 [(.aload_n 0, 1), (.getfield 49, 3), (.getfield 102, 3), (.aload_n 0, 1), (.getfield 40, 3), (.iaload, 1), (.istore_n 3, 1), (.iload_n 2, 1), (.iconst 2, 1), (.if_icmp .eq 8, 3), (.iload_n 2, 1), (.iconst 5, 1), (.if_icmp .ne 12, 3), (.aload_n 0, 1), (.invokevirtual 105, 3), (.ifCond .ne 5, 3)] := zdcA_ok (by decide +kernel)
theorem dX5_mayCarry_30 : decode cX5_mayCarry 30 = .ok (.aload_n 0, 1) := dX5_mayCarry_r30.1
theorem dX5_mayCarry_31 : decode cX5_mayCarry 31 = .ok (.getfield 49, 3) := dX5_mayCarry_r30.2.1
theorem dX5_mayCarry_34 : decode cX5_mayCarry 34 = .ok (.getfield 102, 3) := dX5_mayCarry_r30.2.2.1
theorem dX5_mayCarry_37 : decode cX5_mayCarry 37 = .ok (.aload_n 0, 1) := dX5_mayCarry_r30.2.2.2.1
theorem dX5_mayCarry_38 : decode cX5_mayCarry 38 = .ok (.getfield 40, 3) := dX5_mayCarry_r30.2.2.2.2.1
theorem dX5_mayCarry_41 : decode cX5_mayCarry 41 = .ok (.iaload, 1) := dX5_mayCarry_r30.2.2.2.2.2.1
theorem dX5_mayCarry_42 : decode cX5_mayCarry 42 = .ok (.istore_n 3, 1) := dX5_mayCarry_r30.2.2.2.2.2.2.1
theorem dX5_mayCarry_43 : decode cX5_mayCarry 43 = .ok (.iload_n 2, 1) := dX5_mayCarry_r30.2.2.2.2.2.2.2.1
theorem dX5_mayCarry_44 : decode cX5_mayCarry 44 = .ok (.iconst 2, 1) := dX5_mayCarry_r30.2.2.2.2.2.2.2.2.1
theorem dX5_mayCarry_45 : decode cX5_mayCarry 45 = .ok (.if_icmp .eq 8, 3) := dX5_mayCarry_r30.2.2.2.2.2.2.2.2.2.1
theorem dX5_mayCarry_48 : decode cX5_mayCarry 48 = .ok (.iload_n 2, 1) := dX5_mayCarry_r30.2.2.2.2.2.2.2.2.2.2.1
theorem dX5_mayCarry_49 : decode cX5_mayCarry 49 = .ok (.iconst 5, 1) := dX5_mayCarry_r30.2.2.2.2.2.2.2.2.2.2.2.1
theorem dX5_mayCarry_50 : decode cX5_mayCarry 50 = .ok (.if_icmp .ne 12, 3) := dX5_mayCarry_r30.2.2.2.2.2.2.2.2.2.2.2.2.1
theorem dX5_mayCarry_53 : decode cX5_mayCarry 53 = .ok (.aload_n 0, 1) := dX5_mayCarry_r30.2.2.2.2.2.2.2.2.2.2.2.2.2.1
theorem dX5_mayCarry_54 : decode cX5_mayCarry 54 = .ok (.invokevirtual 105, 3) := dX5_mayCarry_r30.2.2.2.2.2.2.2.2.2.2.2.2.2.2.1
theorem dX5_mayCarry_57 : decode cX5_mayCarry 57 = .ok (.ifCond .ne 5, 3) := dX5_mayCarry_r30.2.2.2.2.2.2.2.2.2.2.2.2.2.2.2.1
theorem dX5_mayCarry_r60 : zdcP cX5_mayCarry 60 [(.iconst 0, 1), (.ireturn, 1), (.iload_n 2, 1), (.bipush 6, 2), (.if_icmp .ne 10, 3), (.iload_n 3, 1), (.iconst 1, 1), (.if_icmp .le 5, 3), (.iconst 0, 1), (.ireturn, 1), (.aload_n 0, 1), (.getfield 9, 3), (.iload_n 1, 1), (.iaload, 1), (.aload_n 0, 1), (.iload_n 1, 1)] := zdcA_ok (by decide +kernel)
theorem dX5_mayCarry_60 : decode cX5_mayCarry 60 = .ok (.iconst 0, 1) := dX5_mayCarry_r60.1
theorem dX5_mayCarry_61 : decode cX5_mayCarry 61 = .ok (.ireturn, 1) := dX5_mayCarry_r60.2.1
theorem dX5_mayCarry_62 : decode cX5_mayCarry 62 = .ok (.iload_n 2, 1) := dX5_mayCarry_r60.2.2.1
theorem dX5_mayCarry_63 : decode cX5_mayCarry 63 = .ok (.bipush 6, 2) := dX5_mayCarry_r60.2.2.2.1
theorem dX5_mayCarry_65 : decode cX5_mayCarry 65 = .ok (.if_icmp .ne 10, 3) := dX5_mayCarry_r60.2.2.2.2.1
theorem dX5_mayCarry_68 : decode cX5_mayCarry 68 = .ok (.iload_n 3, 1) := dX5_mayCarry_r60.2.2.2.2.2.1
theorem dX5_mayCarry_69 : decode cX5_mayCarry 69 = .ok (.iconst 1, 1) := dX5_mayCarry_r60.2.2.2.2.2.2.1
theorem dX5_mayCarry_70 : decode cX5_mayCarry 70 = .ok (.if_icmp .le 5, 3) := dX5_mayCarry_r60.2.2.2.2.2.2.2.1
theorem dX5_mayCarry_73 : decode cX5_mayCarry 73 = .ok (.iconst 0, 1) := dX5_mayCarry_r60.2.2.2.2.2.2.2.2.1
theorem dX5_mayCarry_74 : decode cX5_mayCarry 74 = .ok (.ireturn, 1) := dX5_mayCarry_r60.2.2.2.2.2.2.2.2.2.1
theorem dX5_mayCarry_75 : decode cX5_mayCarry 75 = .ok (.aload_n 0, 1) := dX5_mayCarry_r60.2.2.2.2.2.2.2.2.2.2.1
theorem dX5_mayCarry_76 : decode cX5_mayCarry 76 = .ok (.getfield 9, 3) := dX5_mayCarry_r60.2.2.2.2.2.2.2.2.2.2.2.1
theorem dX5_mayCarry_79 : decode cX5_mayCarry 79 = .ok (.iload_n 1, 1) := dX5_mayCarry_r60.2.2.2.2.2.2.2.2.2.2.2.2.1
theorem dX5_mayCarry_80 : decode cX5_mayCarry 80 = .ok (.iaload, 1) := dX5_mayCarry_r60.2.2.2.2.2.2.2.2.2.2.2.2.2.1
theorem dX5_mayCarry_81 : decode cX5_mayCarry 81 = .ok (.aload_n 0, 1) := dX5_mayCarry_r60.2.2.2.2.2.2.2.2.2.2.2.2.2.2.1
theorem dX5_mayCarry_82 : decode cX5_mayCarry 82 = .ok (.iload_n 1, 1) := dX5_mayCarry_r60.2.2.2.2.2.2.2.2.2.2.2.2.2.2.2.1
theorem dX5_mayCarry_r83 : zdcP cX5_mayCarry 83 [(.iload_n 3, 1), (.invokevirtual 108, 3), (.iadd, 1), (.aload_n 0, 1), (.getfield 37, 3), (.if_icmp .gt 7, 3), (.iconst 1, 1), (.goto 4, 3), (.iconst 0, 1), (.ireturn, 1)] := zdcA_ok (by decide +kernel)
theorem dX5_mayCarry_83 : decode cX5_mayCarry 83 = .ok (.iload_n 3, 1) := dX5_mayCarry_r83.1
theorem dX5_mayCarry_84 : decode cX5_mayCarry 84 = .ok (.invokevirtual 108, 3) := dX5_mayCarry_r83.2.1
theorem dX5_mayCarry_87 : decode cX5_mayCarry 87 = .ok (.iadd, 1) := dX5_mayCarry_r83.2.2.1
theorem dX5_mayCarry_88 : decode cX5_mayCarry 88 = .ok (.aload_n 0, 1) := dX5_mayCarry_r83.2.2.2.1
theorem dX5_mayCarry_89 : decode cX5_mayCarry 89 = .ok (.getfield 37, 3) := dX5_mayCarry_r83.2.2.2.2.1
theorem dX5_mayCarry_92 : decode cX5_mayCarry 92 = .ok (.if_icmp .gt 7, 3) := dX5_mayCarry_r83.2.2.2.2.2.1
theorem dX5_mayCarry_95 : decode cX5_mayCarry 95 = .ok (.iconst 1, 1) := dX5_mayCarry_r83.2.2.2.2.2.2.1
theorem dX5_mayCarry_96 : decode cX5_mayCarry 96 = .ok (.goto 4, 3) := dX5_mayCarry_r83.2.2.2.2.2.2.2.1
theorem dX5_mayCarry_99 : decode cX5_mayCarry 99 = .ok (.iconst 0, 1) := dX5_mayCarry_r83.2.2.2.2.2.2.2.2.1
theorem dX5_mayCarry_100 : decode cX5_mayCarry 100 = .ok (.ireturn, 1) := dX5_mayCarry_r83.2.2.2.2.2.2.2.2.2.1
def wq_53_75 (w0 : Nat) (y0 : Nat) (r0 : Nat) (v1 : Int32) (v3 : Int32) (m : zf_Me) (Q : Bool → zf_Me → Prop) : Prop := ((0 ≤ (Int32.toInt v1) ∧ (Int32.toInt v1) < (6 : Int)) ∧ wp_51 w0 y0 r0 v1 v3 m (fun x7 m8 => (((((m.1 r0 (Int32.toInt v1).toNat) + x7)).toInt > ((m8.1 w0 9)).toInt → Q false m8) ∧ ((((m.1 r0 (Int32.toInt v1).toNat) + x7)).toInt ≤ ((m8.1 w0 9)).toInt → Q true m8))))
theorem zq_53_75 {d : Nat} (hd : 1 ≤ d) {w0 : Nat} {y0 : Nat} {r0 : Nat} (hp0 : zf_walk w0 y0 r0) {v1 : Int32} {Q : Bool → zf_Me → Prop} {v3 : Int32} {m : zf_Me} (h : wq_53_75 w0 y0 r0 v1 v3 m Q) : zf_W none 0 0 d zt_53 75 [some (.inr (.inr (1, w0))), some (.inl v1), none, some (.inl v3)] [] m (zf_B Q) := by
  obtain ⟨e, rfl⟩ : ∃ z, d = z + 1 := ⟨d - 1, by omega⟩
  unfold wq_53_75 at h
  refine zf_ld (pc' := 76) (v := .inr (.inr (1, w0))) dX5_mayCarry_75 rfl (fun _ _ _ => rfl) rfl rfl rfl ?_
  refine zf_gfr (pc' := 79) (b := r0) dX5_mayCarry_76 rfl rfl hp0.1 hp0.2.1 rfl ?_
  refine zf_ld (pc' := 80) (v := .inl v1) dX5_mayCarry_79 rfl (fun _ _ _ => rfl) rfl rfl rfl ?_
  refine zf_ial (pc' := 81) dX5_mayCarry_80 rfl hp0.2.2.2.1 hp0.2.2.2.2 h.1 rfl ?_
  replace h := h.2
  refine zf_ld (pc' := 82) (v := .inr (.inr (1, w0))) dX5_mayCarry_81 rfl (fun _ _ _ => rfl) rfl rfl rfl ?_
  refine zf_ld (pc' := 83) (v := .inl v1) dX5_mayCarry_82 rfl (fun _ _ _ => rfl) rfl rfl rfl ?_
  refine zf_ld (pc' := 84) (v := .inl v3) dX5_mayCarry_83 rfl (fun _ _ _ => rfl) rfl rfl rfl ?_
  refine zf_iv (k := 51) (pc' := 87) (r := [.inl (m.1 r0 (Int32.toInt v1).toNat)]) dX5_mayCarry_84 rfl rfl rfl rfl hp0.1 hp0.2.1 rfl rfl (zr_51 (by omega) hp0 h) (zf_kI (fun x7 m8 h => ?_))
  refine zf_in (pc' := 88) (S' := [.inl ((m.1 r0 (Int32.toInt v1).toNat) + x7)]) dX5_mayCarry_87 rfl (fun _ _ _ => rfl) ?_
  refine zf_ld (pc' := 89) (v := .inr (.inr (1, w0))) dX5_mayCarry_88 rfl (fun _ _ _ => rfl) rfl rfl rfl ?_
  refine zf_gfi (pc' := 92) dX5_mayCarry_89 rfl rfl hp0.1 hp0.2.1 rfl ?_
  refine zf_icmp_gt (tgt := 99) (pc' := 95) dX5_mayCarry_92 rfl rfl (fun g => ?_) (fun g => ?_)
  · replace h := h.1 g
    refine zf_ic (v := 0) (pc' := 100) dX5_mayCarry_99 rfl rfl ?_
    exact zf_rb (b := false) dX5_mayCarry_100 rfl h
  · replace h := h.2 g
    refine zf_ic (v := 1) (pc' := 96) dX5_mayCarry_95 rfl rfl ?_
    refine zf_goto (tgt := 100) dX5_mayCarry_96 rfl ?_
    exact zf_rb (b := true) dX5_mayCarry_100 rfl h
def wq_53_62 (w0 : Nat) (y0 : Nat) (r0 : Nat) (v1 : Int32) (v2 : Int32) (v3 : Int32) (m : zf_Me) (Q : Bool → zf_Me → Prop) : Prop := ((¬ v2.toInt = 6 → wq_53_75 w0 y0 r0 v1 v3 m Q) ∧ (v2.toInt = 6 → ((v3.toInt ≤ 1 → wq_53_75 w0 y0 r0 v1 v3 m Q) ∧ (v3.toInt > 1 → Q false m))))
theorem zq_53_62 {d : Nat} (hd : 1 ≤ d) {w0 : Nat} {y0 : Nat} {r0 : Nat} (hp0 : zf_walk w0 y0 r0) {v1 : Int32} {Q : Bool → zf_Me → Prop} {v2 : Int32} {v3 : Int32} {m : zf_Me} (h : wq_53_62 w0 y0 r0 v1 v2 v3 m Q) : zf_W none 0 0 d zt_53 62 [some (.inr (.inr (1, w0))), some (.inl v1), some (.inl v2), some (.inl v3)] [] m (zf_B Q) := by
  unfold wq_53_62 at h
  refine zf_ld (pc' := 63) (v := .inl v2) dX5_mayCarry_62 rfl (fun _ _ _ => rfl) rfl rfl rfl ?_
  refine zf_bi (v := 6) (pc' := 65) dX5_mayCarry_63 rfl rfl ?_
  refine zf_icmp_ne (tgt := 75) (pc' := 68) dX5_mayCarry_65 rfl rfl (fun g => ?_) (fun g => ?_)
  · replace h := h.1 g
    exact zf_lo (zq_53_75 (by omega) hp0 h) ⟨rfl, rfl, rfl, trivial⟩
  · replace h := h.2 g
    refine zf_ld (pc' := 69) (v := .inl v3) dX5_mayCarry_68 rfl (fun _ _ _ => rfl) rfl rfl rfl ?_
    refine zf_ic (v := 1) (pc' := 70) dX5_mayCarry_69 rfl rfl ?_
    refine zf_icmp_le (tgt := 75) (pc' := 73) dX5_mayCarry_70 rfl rfl (fun g => ?_) (fun g => ?_)
    · replace h := h.1 g
      exact zf_lo (zq_53_75 (by omega) hp0 h) ⟨rfl, rfl, rfl, trivial⟩
    · replace h := h.2 g
      refine zf_ic (v := 0) (pc' := 74) dX5_mayCarry_73 rfl rfl ?_
      exact zf_rb (b := false) dX5_mayCarry_74 rfl h
def wq_53_53 (w0 : Nat) (y0 : Nat) (r0 : Nat) (v1 : Int32) (v2 : Int32) (v3 : Int32) (m : zf_Me) (Q : Bool → zf_Me → Prop) : Prop := wp_48 w0 y0 r0 m (fun b5 m6 => ((b5 = true → wq_53_62 w0 y0 r0 v1 v2 v3 m6 Q) ∧ (b5 = false → Q false m6)))
theorem zq_53_53 {d : Nat} (hd : 1 ≤ d) {w0 : Nat} {y0 : Nat} {r0 : Nat} (hp0 : zf_walk w0 y0 r0) {v1 : Int32} {Q : Bool → zf_Me → Prop} {v2 : Int32} {v3 : Int32} {m : zf_Me} (h : wq_53_53 w0 y0 r0 v1 v2 v3 m Q) : zf_W none 0 0 d zt_53 53 [some (.inr (.inr (1, w0))), some (.inl v1), some (.inl v2), some (.inl v3)] [] m (zf_B Q) := by
  obtain ⟨e, rfl⟩ : ∃ z, d = z + 1 := ⟨d - 1, by omega⟩
  unfold wq_53_53 at h
  refine zf_ld (pc' := 54) (v := .inr (.inr (1, w0))) dX5_mayCarry_53 rfl (fun _ _ _ => rfl) rfl rfl rfl ?_
  refine zf_iv (k := 48) (pc' := 57) (r := []) dX5_mayCarry_54 rfl rfl rfl rfl hp0.1 hp0.2.1 rfl rfl (zr_48 (by omega) hp0 h) (zf_kB (fun b5 m6 h => ?_))
  refine zf_ib_ne (tgt := 62) (pc' := 60) dX5_mayCarry_57 rfl rfl (fun g => ?_) (fun g => ?_)
  · replace h := h.1 g
    exact zf_lo (zq_53_62 (by omega) hp0 h) ⟨rfl, rfl, rfl, rfl, trivial⟩
  · replace h := h.2 g
    refine zf_ic (v := 0) (pc' := 61) dX5_mayCarry_60 rfl rfl ?_
    exact zf_rb (b := false) dX5_mayCarry_61 rfl h
def wp_53 (w0 : Nat) (y0 : Nat) (r0 : Nat) (v1 : Int32) (m : zf_Me) (Q : Bool → zf_Me → Prop) : Prop := wp_65 y0 v1 m (fun b1 m2 => ((b1 = false → Q false m2) ∧ (b1 = true → wp_47 w0 y0 r0 m2 (fun b3 m4 => ((b3 = false → ((0 ≤ (Int32.toInt v1) ∧ (Int32.toInt v1) < (6 : Int)) ∧ ((0 ≤ (Int32.toInt (m4.1 w0 10)) ∧ (Int32.toInt (m4.1 w0 10)) < (24 : Int)) ∧ ((((m4.1 (y0 + 3) (Int32.toInt v1).toNat)).toInt = 2 → wq_53_53 w0 y0 r0 v1 (m4.1 (y0 + 3) (Int32.toInt v1).toNat) (m4.1 (y0 + 1) (Int32.toInt (m4.1 w0 10)).toNat) m4 Q) ∧ (¬ ((m4.1 (y0 + 3) (Int32.toInt v1).toNat)).toInt = 2 → ((¬ ((m4.1 (y0 + 3) (Int32.toInt v1).toNat)).toInt = 5 → wq_53_62 w0 y0 r0 v1 (m4.1 (y0 + 3) (Int32.toInt v1).toNat) (m4.1 (y0 + 1) (Int32.toInt (m4.1 w0 10)).toNat) m4 Q) ∧ (((m4.1 (y0 + 3) (Int32.toInt v1).toNat)).toInt = 5 → wq_53_53 w0 y0 r0 v1 (m4.1 (y0 + 3) (Int32.toInt v1).toNat) (m4.1 (y0 + 1) (Int32.toInt (m4.1 w0 10)).toNat) m4 Q))))))) ∧ (b3 = true → Q false m4))))))
theorem zr_53 {d : Nat} (hd : 1 ≤ d) {w0 : Nat} {y0 : Nat} {r0 : Nat} (hp0 : zf_walk w0 y0 r0) {v1 : Int32} {Q : Bool → zf_Me → Prop} {m : zf_Me} (h : wp_53 w0 y0 r0 v1 m Q) : zf_M d 53 [.inr (.inr (1, w0)), .inl v1] m (zf_B Q) := by
  obtain ⟨e, rfl⟩ : ∃ z, d = z + 1 := ⟨d - 1, by omega⟩
  unfold wp_53 at h
  refine zf_M_of (Nat.le_of_ble_eq_true rfl) zm_53 (L := [some (.inr (.inr (1, w0))), some (.inl v1), none, none]) rfl ?_
  refine zf_ld (pc' := 1) (v := .inr (.inr (1, w0))) dX5_mayCarry_0 rfl (fun _ _ _ => rfl) rfl rfl rfl ?_
  refine zf_gfr (pc' := 4) (b := y0) dX5_mayCarry_1 rfl rfl hp0.1 hp0.2.1 rfl ?_
  refine zf_ld (pc' := 5) (v := .inl v1) dX5_mayCarry_4 rfl (fun _ _ _ => rfl) rfl rfl rfl ?_
  refine zf_iv (k := 65) (pc' := 8) (r := []) dX5_mayCarry_5 rfl rfl rfl rfl hp0.2.2.1.1 hp0.2.2.1.2.1 rfl rfl (zr_65 (by omega) hp0.2.2.1 h) (zf_kB (fun b1 m2 h => ?_))
  refine zf_ib_eq (tgt := 18) (pc' := 11) dX5_mayCarry_8 rfl rfl (fun g => ?_) (fun g => ?_)
  · replace h := h.1 g
    refine zf_ic (v := 0) (pc' := 19) dX5_mayCarry_18 rfl rfl ?_
    exact zf_rb (b := false) dX5_mayCarry_19 rfl h
  · replace h := h.2 g
    refine zf_ld (pc' := 12) (v := .inr (.inr (1, w0))) dX5_mayCarry_11 rfl (fun _ _ _ => rfl) rfl rfl rfl ?_
    refine zf_iv (k := 47) (pc' := 15) (r := []) dX5_mayCarry_12 rfl rfl rfl rfl hp0.1 hp0.2.1 rfl rfl (zr_47 (by omega) hp0 h) (zf_kB (fun b3 m4 h => ?_))
    refine zf_ib_eq (tgt := 20) (pc' := 18) dX5_mayCarry_15 rfl rfl (fun g => ?_) (fun g => ?_)
    · replace h := h.1 g
      refine zf_ld (pc' := 21) (v := .inr (.inr (1, w0))) dX5_mayCarry_20 rfl (fun _ _ _ => rfl) rfl rfl rfl ?_
      refine zf_gfr (pc' := 24) (b := y0) dX5_mayCarry_21 rfl rfl hp0.1 hp0.2.1 rfl ?_
      refine zf_gfr (pc' := 27) (b := (y0 + 3)) dX5_mayCarry_24 rfl rfl hp0.2.2.1.1 hp0.2.2.1.2.1 rfl ?_
      refine zf_ld (pc' := 28) (v := .inl v1) dX5_mayCarry_27 rfl (fun _ _ _ => rfl) rfl rfl rfl ?_
      refine zf_ial (pc' := 29) dX5_mayCarry_28 rfl hp0.2.2.1.2.2.2.2.1.1 hp0.2.2.1.2.2.2.2.1.2 h.1 rfl ?_
      replace h := h.2
      refine zf_st (pc' := 30) (L2 := [some (.inr (.inr (1, w0))), some (.inl v1), some (.inl (m4.1 (y0 + 3) (Int32.toInt v1).toNat)), none]) dX5_mayCarry_29 rfl (fun _ _ _ => rfl) rfl rfl rfl rfl rfl rfl ?_
      refine zf_ld (pc' := 31) (v := .inr (.inr (1, w0))) dX5_mayCarry_30 rfl (fun _ _ _ => rfl) rfl rfl rfl ?_
      refine zf_gfr (pc' := 34) (b := y0) dX5_mayCarry_31 rfl rfl hp0.1 hp0.2.1 rfl ?_
      refine zf_gfr (pc' := 37) (b := (y0 + 1)) dX5_mayCarry_34 rfl rfl hp0.2.2.1.1 hp0.2.2.1.2.1 rfl ?_
      refine zf_ld (pc' := 38) (v := .inr (.inr (1, w0))) dX5_mayCarry_37 rfl (fun _ _ _ => rfl) rfl rfl rfl ?_
      refine zf_gfi (pc' := 41) dX5_mayCarry_38 rfl rfl hp0.1 hp0.2.1 rfl ?_
      refine zf_ial (pc' := 42) dX5_mayCarry_41 rfl hp0.2.2.1.2.2.1.1 hp0.2.2.1.2.2.1.2 h.1 rfl ?_
      replace h := h.2
      refine zf_st (pc' := 43) (L2 := [some (.inr (.inr (1, w0))), some (.inl v1), some (.inl (m4.1 (y0 + 3) (Int32.toInt v1).toNat)), some (.inl (m4.1 (y0 + 1) (Int32.toInt (m4.1 w0 10)).toNat))]) dX5_mayCarry_42 rfl (fun _ _ _ => rfl) rfl rfl rfl rfl rfl rfl ?_
      refine zf_ld (pc' := 44) (v := .inl (m4.1 (y0 + 3) (Int32.toInt v1).toNat)) dX5_mayCarry_43 rfl (fun _ _ _ => rfl) rfl rfl rfl ?_
      refine zf_ic (v := 2) (pc' := 45) dX5_mayCarry_44 rfl rfl ?_
      refine zf_icmp_eq (tgt := 53) (pc' := 48) dX5_mayCarry_45 rfl rfl (fun g => ?_) (fun g => ?_)
      · replace h := h.1 g
        exact zf_lo (zq_53_53 (by omega) hp0 h) ⟨rfl, rfl, rfl, rfl, trivial⟩
      · replace h := h.2 g
        refine zf_ld (pc' := 49) (v := .inl (m4.1 (y0 + 3) (Int32.toInt v1).toNat)) dX5_mayCarry_48 rfl (fun _ _ _ => rfl) rfl rfl rfl ?_
        refine zf_ic (v := 5) (pc' := 50) dX5_mayCarry_49 rfl rfl ?_
        refine zf_icmp_ne (tgt := 62) (pc' := 53) dX5_mayCarry_50 rfl rfl (fun g => ?_) (fun g => ?_)
        · replace h := h.1 g
          exact zf_lo (zq_53_62 (by omega) hp0 h) ⟨rfl, rfl, rfl, rfl, trivial⟩
        · replace h := h.2 g
          exact zf_lo (zq_53_53 (by omega) hp0 h) ⟨rfl, rfl, rfl, rfl, trivial⟩
    · replace h := h.2 g
      refine zf_ic (v := 0) (pc' := 19) dX5_mayCarry_18 rfl rfl ?_
      exact zf_rb (b := false) dX5_mayCarry_19 rfl h
def zt_52 : zx_MT := (5, yX5_mayBe, cX5_mayBe, 2, (some FieldType.boolean), 1, 0)
theorem zm_52 : zx_m 52 = zt_52 := rfl
theorem dX5_mayBe_0 : decode cX5_mayBe 0 = .ok (.iload_n 1, 1) := zdc_ok (by decide +kernel)
theorem dX5_mayBe_1 : decode cX5_mayBe 1 = .ok (.tableswitch 99 6 9 #[31, 52, 73, 94], 31) := by decide +kernel
theorem dX5_mayBe_r32 : zdcP cX5_mayBe 32 [(.aload_n 0, 1), (.invokevirtual 85, 3), (.ifCond .eq 15, 3), (.aload_n 0, 1), (.getfield 22, 3), (.iconst 1, 1), (.if_icmp .lt 7, 3), (.iconst 1, 1), (.goto 4, 3), (.iconst 0, 1), (.ireturn, 1), (.aload_n 0, 1), (.invokevirtual 85, 3), (.ifCond .eq 15, 3), (.aload_n 0, 1), (.getfield 31, 3)] := zdcA_ok (by decide +kernel)
theorem dX5_mayBe_32 : decode cX5_mayBe 32 = .ok (.aload_n 0, 1) := dX5_mayBe_r32.1
theorem dX5_mayBe_33 : decode cX5_mayBe 33 = .ok (.invokevirtual 85, 3) := dX5_mayBe_r32.2.1
theorem dX5_mayBe_36 : decode cX5_mayBe 36 = .ok (.ifCond .eq 15, 3) := dX5_mayBe_r32.2.2.1
theorem dX5_mayBe_39 : decode cX5_mayBe 39 = .ok (.aload_n 0, 1) := dX5_mayBe_r32.2.2.2.1
theorem dX5_mayBe_40 : decode cX5_mayBe 40 = .ok (.getfield 22, 3) := dX5_mayBe_r32.2.2.2.2.1
theorem dX5_mayBe_43 : decode cX5_mayBe 43 = .ok (.iconst 1, 1) := dX5_mayBe_r32.2.2.2.2.2.1
theorem dX5_mayBe_44 : decode cX5_mayBe 44 = .ok (.if_icmp .lt 7, 3) := dX5_mayBe_r32.2.2.2.2.2.2.1
theorem dX5_mayBe_47 : decode cX5_mayBe 47 = .ok (.iconst 1, 1) := dX5_mayBe_r32.2.2.2.2.2.2.2.1
theorem dX5_mayBe_48 : decode cX5_mayBe 48 = .ok (.goto 4, 3) := dX5_mayBe_r32.2.2.2.2.2.2.2.2.1
theorem dX5_mayBe_51 : decode cX5_mayBe 51 = .ok (.iconst 0, 1) := dX5_mayBe_r32.2.2.2.2.2.2.2.2.2.1
theorem dX5_mayBe_52 : decode cX5_mayBe 52 = .ok (.ireturn, 1) := dX5_mayBe_r32.2.2.2.2.2.2.2.2.2.2.1
theorem dX5_mayBe_53 : decode cX5_mayBe 53 = .ok (.aload_n 0, 1) := dX5_mayBe_r32.2.2.2.2.2.2.2.2.2.2.2.1
theorem dX5_mayBe_54 : decode cX5_mayBe 54 = .ok (.invokevirtual 85, 3) := dX5_mayBe_r32.2.2.2.2.2.2.2.2.2.2.2.2.1
theorem dX5_mayBe_57 : decode cX5_mayBe 57 = .ok (.ifCond .eq 15, 3) := dX5_mayBe_r32.2.2.2.2.2.2.2.2.2.2.2.2.2.1
theorem dX5_mayBe_60 : decode cX5_mayBe 60 = .ok (.aload_n 0, 1) := dX5_mayBe_r32.2.2.2.2.2.2.2.2.2.2.2.2.2.2.1
theorem dX5_mayBe_61 : decode cX5_mayBe 61 = .ok (.getfield 31, 3) := dX5_mayBe_r32.2.2.2.2.2.2.2.2.2.2.2.2.2.2.2.1
theorem dX5_mayBe_r64 : zdcP cX5_mayBe 64 [(.iconst 1, 1), (.if_icmp .lt 7, 3), (.iconst 1, 1), (.goto 4, 3), (.iconst 0, 1), (.ireturn, 1), (.aload_n 0, 1), (.invokevirtual 85, 3), (.ifCond .eq 15, 3), (.aload_n 0, 1), (.getfield 34, 3), (.iconst 1, 1), (.if_icmp .lt 7, 3), (.iconst 1, 1), (.goto 4, 3), (.iconst 0, 1)] := zdcA_ok (by decide +kernel)
theorem dX5_mayBe_64 : decode cX5_mayBe 64 = .ok (.iconst 1, 1) := dX5_mayBe_r64.1
theorem dX5_mayBe_65 : decode cX5_mayBe 65 = .ok (.if_icmp .lt 7, 3) := dX5_mayBe_r64.2.1
theorem dX5_mayBe_68 : decode cX5_mayBe 68 = .ok (.iconst 1, 1) := dX5_mayBe_r64.2.2.1
theorem dX5_mayBe_69 : decode cX5_mayBe 69 = .ok (.goto 4, 3) := dX5_mayBe_r64.2.2.2.1
theorem dX5_mayBe_72 : decode cX5_mayBe 72 = .ok (.iconst 0, 1) := dX5_mayBe_r64.2.2.2.2.1
theorem dX5_mayBe_73 : decode cX5_mayBe 73 = .ok (.ireturn, 1) := dX5_mayBe_r64.2.2.2.2.2.1
theorem dX5_mayBe_74 : decode cX5_mayBe 74 = .ok (.aload_n 0, 1) := dX5_mayBe_r64.2.2.2.2.2.2.1
theorem dX5_mayBe_75 : decode cX5_mayBe 75 = .ok (.invokevirtual 85, 3) := dX5_mayBe_r64.2.2.2.2.2.2.2.1
theorem dX5_mayBe_78 : decode cX5_mayBe 78 = .ok (.ifCond .eq 15, 3) := dX5_mayBe_r64.2.2.2.2.2.2.2.2.1
theorem dX5_mayBe_81 : decode cX5_mayBe 81 = .ok (.aload_n 0, 1) := dX5_mayBe_r64.2.2.2.2.2.2.2.2.2.1
theorem dX5_mayBe_82 : decode cX5_mayBe 82 = .ok (.getfield 34, 3) := dX5_mayBe_r64.2.2.2.2.2.2.2.2.2.2.1
theorem dX5_mayBe_85 : decode cX5_mayBe 85 = .ok (.iconst 1, 1) := dX5_mayBe_r64.2.2.2.2.2.2.2.2.2.2.2.1
theorem dX5_mayBe_86 : decode cX5_mayBe 86 = .ok (.if_icmp .lt 7, 3) := dX5_mayBe_r64.2.2.2.2.2.2.2.2.2.2.2.2.1
theorem dX5_mayBe_89 : decode cX5_mayBe 89 = .ok (.iconst 1, 1) := dX5_mayBe_r64.2.2.2.2.2.2.2.2.2.2.2.2.2.1
theorem dX5_mayBe_90 : decode cX5_mayBe 90 = .ok (.goto 4, 3) := dX5_mayBe_r64.2.2.2.2.2.2.2.2.2.2.2.2.2.2.1
theorem dX5_mayBe_93 : decode cX5_mayBe 93 = .ok (.iconst 0, 1) := dX5_mayBe_r64.2.2.2.2.2.2.2.2.2.2.2.2.2.2.2.1
theorem dX5_mayBe_r94 : zdcP cX5_mayBe 94 [(.ireturn, 1), (.aload_n 0, 1), (.invokevirtual 89, 3), (.ireturn, 1), (.aload_n 0, 1), (.iload_n 1, 1), (.invokevirtual 92, 3), (.ireturn, 1)] := zdcA_ok (by decide +kernel)
theorem dX5_mayBe_94 : decode cX5_mayBe 94 = .ok (.ireturn, 1) := dX5_mayBe_r94.1
theorem dX5_mayBe_95 : decode cX5_mayBe 95 = .ok (.aload_n 0, 1) := dX5_mayBe_r94.2.1
theorem dX5_mayBe_96 : decode cX5_mayBe 96 = .ok (.invokevirtual 89, 3) := dX5_mayBe_r94.2.2.1
theorem dX5_mayBe_99 : decode cX5_mayBe 99 = .ok (.ireturn, 1) := dX5_mayBe_r94.2.2.2.1
theorem dX5_mayBe_100 : decode cX5_mayBe 100 = .ok (.aload_n 0, 1) := dX5_mayBe_r94.2.2.2.2.1
theorem dX5_mayBe_101 : decode cX5_mayBe 101 = .ok (.iload_n 1, 1) := dX5_mayBe_r94.2.2.2.2.2.1
theorem dX5_mayBe_102 : decode cX5_mayBe 102 = .ok (.invokevirtual 92, 3) := dX5_mayBe_r94.2.2.2.2.2.2.1
theorem dX5_mayBe_105 : decode cX5_mayBe 105 = .ok (.ireturn, 1) := dX5_mayBe_r94.2.2.2.2.2.2.2.1
def wp_52 (w0 : Nat) (y0 : Nat) (r0 : Nat) (v1 : Int32) (m : zf_Me) (Q : Bool → zf_Me → Prop) : Prop := (((v1.toInt < 6 ∨ v1.toInt > 9) → wp_53 w0 y0 r0 v1 m (fun b1 m2 => Q b1 m2)) ∧ (v1.toInt = 6 → wp_54 w0 y0 r0 m (fun b3 m4 => ((b3 = false → Q false m4) ∧ (b3 = true → ((((m4.1 w0 4)).toInt < 1 → Q false m4) ∧ (((m4.1 w0 4)).toInt ≥ 1 → Q true m4)))))) ∧ (v1.toInt = 7 → wp_54 w0 y0 r0 m (fun b5 m6 => ((b5 = false → Q false m6) ∧ (b5 = true → ((((m6.1 w0 7)).toInt < 1 → Q false m6) ∧ (((m6.1 w0 7)).toInt ≥ 1 → Q true m6)))))) ∧ (v1.toInt = 8 → wp_54 w0 y0 r0 m (fun b7 m8 => ((b7 = false → Q false m8) ∧ (b7 = true → ((((m8.1 w0 8)).toInt < 1 → Q false m8) ∧ (((m8.1 w0 8)).toInt ≥ 1 → Q true m8)))))) ∧ (v1.toInt = 9 → wp_55 w0 y0 r0 m (fun b9 m10 => Q b9 m10)))
theorem zr_52 {d : Nat} (hd : 2 ≤ d) {w0 : Nat} {y0 : Nat} {r0 : Nat} (hp0 : zf_walk w0 y0 r0) {v1 : Int32} {Q : Bool → zf_Me → Prop} {m : zf_Me} (h : wp_52 w0 y0 r0 v1 m Q) : zf_M d 52 [.inr (.inr (1, w0)), .inl v1] m (zf_B Q) := by
  obtain ⟨e, rfl⟩ : ∃ z, d = z + 1 := ⟨d - 1, by omega⟩
  unfold wp_52 at h
  refine zf_M_of (Nat.le_of_ble_eq_true rfl) zm_52 (L := [some (.inr (.inr (1, w0))), some (.inl v1)]) rfl ?_
  refine zf_ld (pc' := 1) (v := .inl v1) dX5_mayBe_0 rfl (fun _ _ _ => rfl) rfl rfl rfl ?_
  refine zf_tsc (tgd := 100) dX5_mayBe_1 rfl [32, 53, 74, 95] (by decide) (by decide) (fun g => ?_) (zl_cons (fun g => ?_) (zl_cons (fun g => ?_) (zl_cons (fun g => ?_) (zl_cons (fun g => ?_) (zl_nil)))))
  · replace h := h.1 (by omega)
    refine zf_ld (pc' := 101) (v := .inr (.inr (1, w0))) dX5_mayBe_100 rfl (fun _ _ _ => rfl) rfl rfl rfl ?_
    refine zf_ld (pc' := 102) (v := .inl v1) dX5_mayBe_101 rfl (fun _ _ _ => rfl) rfl rfl rfl ?_
    refine zf_iv (k := 53) (pc' := 105) (r := []) dX5_mayBe_102 rfl rfl rfl rfl hp0.1 hp0.2.1 rfl rfl (zr_53 (by omega) hp0 h) (zf_kB (fun b1 m2 h => ?_))
    exact zf_rb (b := b1) dX5_mayBe_105 rfl h
  · replace h := h.2.1 (by omega)
    refine zf_ld (pc' := 33) (v := .inr (.inr (1, w0))) dX5_mayBe_32 rfl (fun _ _ _ => rfl) rfl rfl rfl ?_
    refine zf_iv (k := 54) (pc' := 36) (r := []) dX5_mayBe_33 rfl rfl rfl rfl hp0.1 hp0.2.1 rfl rfl (zr_54 (by omega) hp0 h) (zf_kB (fun b3 m4 h => ?_))
    refine zf_ib_eq (tgt := 51) (pc' := 39) dX5_mayBe_36 rfl rfl (fun g => ?_) (fun g => ?_)
    · replace h := h.1 g
      refine zf_ic (v := 0) (pc' := 52) dX5_mayBe_51 rfl rfl ?_
      exact zf_rb (b := false) dX5_mayBe_52 rfl h
    · replace h := h.2 g
      refine zf_ld (pc' := 40) (v := .inr (.inr (1, w0))) dX5_mayBe_39 rfl (fun _ _ _ => rfl) rfl rfl rfl ?_
      refine zf_gfi (pc' := 43) dX5_mayBe_40 rfl rfl hp0.1 hp0.2.1 rfl ?_
      refine zf_ic (v := 1) (pc' := 44) dX5_mayBe_43 rfl rfl ?_
      refine zf_icmp_lt (tgt := 51) (pc' := 47) dX5_mayBe_44 rfl rfl (fun g => ?_) (fun g => ?_)
      · replace h := h.1 g
        refine zf_ic (v := 0) (pc' := 52) dX5_mayBe_51 rfl rfl ?_
        exact zf_rb (b := false) dX5_mayBe_52 rfl h
      · replace h := h.2 g
        refine zf_ic (v := 1) (pc' := 48) dX5_mayBe_47 rfl rfl ?_
        refine zf_goto (tgt := 52) dX5_mayBe_48 rfl ?_
        exact zf_rb (b := true) dX5_mayBe_52 rfl h
  · replace h := h.2.2.1 (by omega)
    refine zf_ld (pc' := 54) (v := .inr (.inr (1, w0))) dX5_mayBe_53 rfl (fun _ _ _ => rfl) rfl rfl rfl ?_
    refine zf_iv (k := 54) (pc' := 57) (r := []) dX5_mayBe_54 rfl rfl rfl rfl hp0.1 hp0.2.1 rfl rfl (zr_54 (by omega) hp0 h) (zf_kB (fun b5 m6 h => ?_))
    refine zf_ib_eq (tgt := 72) (pc' := 60) dX5_mayBe_57 rfl rfl (fun g => ?_) (fun g => ?_)
    · replace h := h.1 g
      refine zf_ic (v := 0) (pc' := 73) dX5_mayBe_72 rfl rfl ?_
      exact zf_rb (b := false) dX5_mayBe_73 rfl h
    · replace h := h.2 g
      refine zf_ld (pc' := 61) (v := .inr (.inr (1, w0))) dX5_mayBe_60 rfl (fun _ _ _ => rfl) rfl rfl rfl ?_
      refine zf_gfi (pc' := 64) dX5_mayBe_61 rfl rfl hp0.1 hp0.2.1 rfl ?_
      refine zf_ic (v := 1) (pc' := 65) dX5_mayBe_64 rfl rfl ?_
      refine zf_icmp_lt (tgt := 72) (pc' := 68) dX5_mayBe_65 rfl rfl (fun g => ?_) (fun g => ?_)
      · replace h := h.1 g
        refine zf_ic (v := 0) (pc' := 73) dX5_mayBe_72 rfl rfl ?_
        exact zf_rb (b := false) dX5_mayBe_73 rfl h
      · replace h := h.2 g
        refine zf_ic (v := 1) (pc' := 69) dX5_mayBe_68 rfl rfl ?_
        refine zf_goto (tgt := 73) dX5_mayBe_69 rfl ?_
        exact zf_rb (b := true) dX5_mayBe_73 rfl h
  · replace h := h.2.2.2.1 (by omega)
    refine zf_ld (pc' := 75) (v := .inr (.inr (1, w0))) dX5_mayBe_74 rfl (fun _ _ _ => rfl) rfl rfl rfl ?_
    refine zf_iv (k := 54) (pc' := 78) (r := []) dX5_mayBe_75 rfl rfl rfl rfl hp0.1 hp0.2.1 rfl rfl (zr_54 (by omega) hp0 h) (zf_kB (fun b7 m8 h => ?_))
    refine zf_ib_eq (tgt := 93) (pc' := 81) dX5_mayBe_78 rfl rfl (fun g => ?_) (fun g => ?_)
    · replace h := h.1 g
      refine zf_ic (v := 0) (pc' := 94) dX5_mayBe_93 rfl rfl ?_
      exact zf_rb (b := false) dX5_mayBe_94 rfl h
    · replace h := h.2 g
      refine zf_ld (pc' := 82) (v := .inr (.inr (1, w0))) dX5_mayBe_81 rfl (fun _ _ _ => rfl) rfl rfl rfl ?_
      refine zf_gfi (pc' := 85) dX5_mayBe_82 rfl rfl hp0.1 hp0.2.1 rfl ?_
      refine zf_ic (v := 1) (pc' := 86) dX5_mayBe_85 rfl rfl ?_
      refine zf_icmp_lt (tgt := 93) (pc' := 89) dX5_mayBe_86 rfl rfl (fun g => ?_) (fun g => ?_)
      · replace h := h.1 g
        refine zf_ic (v := 0) (pc' := 94) dX5_mayBe_93 rfl rfl ?_
        exact zf_rb (b := false) dX5_mayBe_94 rfl h
      · replace h := h.2 g
        refine zf_ic (v := 1) (pc' := 90) dX5_mayBe_89 rfl rfl ?_
        refine zf_goto (tgt := 94) dX5_mayBe_90 rfl ?_
        exact zf_rb (b := true) dX5_mayBe_94 rfl h
  · replace h := h.2.2.2.2 (by omega)
    refine zf_ld (pc' := 96) (v := .inr (.inr (1, w0))) dX5_mayBe_95 rfl (fun _ _ _ => rfl) rfl rfl rfl ?_
    refine zf_iv (k := 55) (pc' := 99) (r := []) dX5_mayBe_96 rfl rfl rfl rfl hp0.1 hp0.2.1 rfl rfl (zr_55 (by omega) hp0 h) (zf_kB (fun b9 m10 h => ?_))
    exact zf_rb (b := b9) dX5_mayBe_99 rfl h
def zt_11 : zx_MT := (1, yX1_whoseTurn, cX1_whoseTurn, 4, (some FieldType.int), 0, 0)
theorem zm_11 : zx_m 11 = zt_11 := rfl
theorem dX1_whoseTurn_r0 : zdcP cX1_whoseTurn 0 [(.aload_n 0, 1), (.getfield 26, 3), (.getfield 60, 3), (.getfield 64, 3), (.istore_n 1, 1), (.iconst 0, 1), (.istore_n 2, 1), (.iload_n 2, 1), (.iload_n 1, 1), (.if_icmp .ge 36, 3), (.aload_n 0, 1), (.getfield 9, 3), (.iload_n 2, 1), (.iadd, 1), (.iload_n 1, 1), (.irem, 1)] := zdcA_ok (by decide +kernel)
theorem dX1_whoseTurn_0 : decode cX1_whoseTurn 0 = .ok (.aload_n 0, 1) := dX1_whoseTurn_r0.1
theorem dX1_whoseTurn_1 : decode cX1_whoseTurn 1 = .ok (.getfield 26, 3) := dX1_whoseTurn_r0.2.1
theorem dX1_whoseTurn_4 : decode cX1_whoseTurn 4 = .ok (.getfield 60, 3) := dX1_whoseTurn_r0.2.2.1
theorem dX1_whoseTurn_7 : decode cX1_whoseTurn 7 = .ok (.getfield 64, 3) := dX1_whoseTurn_r0.2.2.2.1
theorem dX1_whoseTurn_10 : decode cX1_whoseTurn 10 = .ok (.istore_n 1, 1) := dX1_whoseTurn_r0.2.2.2.2.1
theorem dX1_whoseTurn_11 : decode cX1_whoseTurn 11 = .ok (.iconst 0, 1) := dX1_whoseTurn_r0.2.2.2.2.2.1
theorem dX1_whoseTurn_12 : decode cX1_whoseTurn 12 = .ok (.istore_n 2, 1) := dX1_whoseTurn_r0.2.2.2.2.2.2.1
theorem dX1_whoseTurn_13 : decode cX1_whoseTurn 13 = .ok (.iload_n 2, 1) := dX1_whoseTurn_r0.2.2.2.2.2.2.2.1
theorem dX1_whoseTurn_14 : decode cX1_whoseTurn 14 = .ok (.iload_n 1, 1) := dX1_whoseTurn_r0.2.2.2.2.2.2.2.2.1
theorem dX1_whoseTurn_15 : decode cX1_whoseTurn 15 = .ok (.if_icmp .ge 36, 3) := dX1_whoseTurn_r0.2.2.2.2.2.2.2.2.2.1
theorem dX1_whoseTurn_18 : decode cX1_whoseTurn 18 = .ok (.aload_n 0, 1) := dX1_whoseTurn_r0.2.2.2.2.2.2.2.2.2.2.1
theorem dX1_whoseTurn_19 : decode cX1_whoseTurn 19 = .ok (.getfield 9, 3) := dX1_whoseTurn_r0.2.2.2.2.2.2.2.2.2.2.2.1
theorem dX1_whoseTurn_22 : decode cX1_whoseTurn 22 = .ok (.iload_n 2, 1) := dX1_whoseTurn_r0.2.2.2.2.2.2.2.2.2.2.2.2.1
theorem dX1_whoseTurn_23 : decode cX1_whoseTurn 23 = .ok (.iadd, 1) := dX1_whoseTurn_r0.2.2.2.2.2.2.2.2.2.2.2.2.2.1
theorem dX1_whoseTurn_24 : decode cX1_whoseTurn 24 = .ok (.iload_n 1, 1) := dX1_whoseTurn_r0.2.2.2.2.2.2.2.2.2.2.2.2.2.2.1
theorem dX1_whoseTurn_25 : decode cX1_whoseTurn 25 = .ok (.irem, 1) := dX1_whoseTurn_r0.2.2.2.2.2.2.2.2.2.2.2.2.2.2.2.1
theorem dX1_whoseTurn_r26 : zdcP cX1_whoseTurn 26 [(.istore_n 3, 1), (.aload_n 0, 1), (.getfield 26, 3), (.iload_n 3, 1), (.invokevirtual 85, 3), (.ifCond .eq 10, 3), (.aload_n 0, 1), (.iload_n 3, 1), (.putfield 9, 3), (.iload_n 3, 1), (.ireturn, 1), (.iinc 2 1, 3), (.goto (-35), 3), (.iconst (-1), 1), (.ireturn, 1)] := zdcA_ok (by decide +kernel)
theorem dX1_whoseTurn_26 : decode cX1_whoseTurn 26 = .ok (.istore_n 3, 1) := dX1_whoseTurn_r26.1
theorem dX1_whoseTurn_27 : decode cX1_whoseTurn 27 = .ok (.aload_n 0, 1) := dX1_whoseTurn_r26.2.1
theorem dX1_whoseTurn_28 : decode cX1_whoseTurn 28 = .ok (.getfield 26, 3) := dX1_whoseTurn_r26.2.2.1
theorem dX1_whoseTurn_31 : decode cX1_whoseTurn 31 = .ok (.iload_n 3, 1) := dX1_whoseTurn_r26.2.2.2.1
theorem dX1_whoseTurn_32 : decode cX1_whoseTurn 32 = .ok (.invokevirtual 85, 3) := dX1_whoseTurn_r26.2.2.2.2.1
theorem dX1_whoseTurn_35 : decode cX1_whoseTurn 35 = .ok (.ifCond .eq 10, 3) := dX1_whoseTurn_r26.2.2.2.2.2.1
theorem dX1_whoseTurn_38 : decode cX1_whoseTurn 38 = .ok (.aload_n 0, 1) := dX1_whoseTurn_r26.2.2.2.2.2.2.1
theorem dX1_whoseTurn_39 : decode cX1_whoseTurn 39 = .ok (.iload_n 3, 1) := dX1_whoseTurn_r26.2.2.2.2.2.2.2.1
theorem dX1_whoseTurn_40 : decode cX1_whoseTurn 40 = .ok (.putfield 9, 3) := dX1_whoseTurn_r26.2.2.2.2.2.2.2.2.1
theorem dX1_whoseTurn_43 : decode cX1_whoseTurn 43 = .ok (.iload_n 3, 1) := dX1_whoseTurn_r26.2.2.2.2.2.2.2.2.2.1
theorem dX1_whoseTurn_44 : decode cX1_whoseTurn 44 = .ok (.ireturn, 1) := dX1_whoseTurn_r26.2.2.2.2.2.2.2.2.2.2.1
theorem dX1_whoseTurn_45 : decode cX1_whoseTurn 45 = .ok (.iinc 2 1, 3) := dX1_whoseTurn_r26.2.2.2.2.2.2.2.2.2.2.2.1
theorem dX1_whoseTurn_48 : decode cX1_whoseTurn 48 = .ok (.goto (-35), 3) := dX1_whoseTurn_r26.2.2.2.2.2.2.2.2.2.2.2.2.1
theorem dX1_whoseTurn_51 : decode cX1_whoseTurn 51 = .ok (.iconst (-1), 1) := dX1_whoseTurn_r26.2.2.2.2.2.2.2.2.2.2.2.2.2.1
theorem dX1_whoseTurn_52 : decode cX1_whoseTurn 52 = .ok (.ireturn, 1) := dX1_whoseTurn_r26.2.2.2.2.2.2.2.2.2.2.2.2.2.2.1
def wq_11_13 (Q : Int32 → zf_Me → Prop) : Nat → Int32 → Int32 → zf_Me → Prop
  | 0, _, _, _ => False
  | n + 1, v1, v2, m => ((v2.toInt ≥ v1.toInt → Q (-1) m) ∧ (v2.toInt < v1.toInt → (¬ (Int32.toInt v1) = 0 ∧ wp_53 19 3 20 (((m.1 18 1) + v2) - ((m.1 18 1) + v2) / v1 * v1) m (fun b1 m2 => ((b1 = false → wq_11_13 Q n v1 (v2 + 1) m2) ∧ (b1 = true → (∀ m3, m3 = zf_u m2 18 1 (((m.1 18 1) + v2) - ((m.1 18 1) + v2) / v1 * v1) → Q (((m.1 18 1) + v2) - ((m.1 18 1) + v2) / v1 * v1) m3)))))))
theorem zq_11_13 {d : Nat} (hd : 2 ≤ d) {Q : Int32 → zf_Me → Prop} : ∀ (n : Nat) (v1 : Int32) (v2 : Int32) (m : zf_Me), wq_11_13 Q n v1 v2 m → zf_W none 0 0 d zt_11 13 [some (.inr (.inr (1, 18))), some (.inl v1), some (.inl v2), none] [] m (zf_I Q) := by
  obtain ⟨e, rfl⟩ : ∃ z, d = z + 1 := ⟨d - 1, by omega⟩
  intro n
  induction n with
  | zero =>
    intro v1 v2 m h
    exact h.elim
  | succ n ih =>
    intro v1 v2 m h
    unfold wq_11_13 at h
    refine zf_ld (pc' := 14) (v := .inl v2) dX1_whoseTurn_13 rfl (fun _ _ _ => rfl) rfl rfl rfl ?_
    refine zf_ld (pc' := 15) (v := .inl v1) dX1_whoseTurn_14 rfl (fun _ _ _ => rfl) rfl rfl rfl ?_
    refine zf_icmp_ge (tgt := 51) (pc' := 18) dX1_whoseTurn_15 rfl rfl (fun g => ?_) (fun g => ?_)
    · replace h := h.1 g
      refine zf_ic (v := (-1)) (pc' := 52) dX1_whoseTurn_51 rfl rfl ?_
      exact zf_ri dX1_whoseTurn_52 rfl h
    · replace h := h.2 g
      refine zf_ld (pc' := 19) (v := .inr (.inr (1, 18))) dX1_whoseTurn_18 rfl (fun _ _ _ => rfl) rfl rfl rfl ?_
      refine zf_gfi (pc' := 22) dX1_whoseTurn_19 rfl rfl (by decide) rfl rfl ?_
      refine zf_ld (pc' := 23) (v := .inl v2) dX1_whoseTurn_22 rfl (fun _ _ _ => rfl) rfl rfl rfl ?_
      refine zf_in (pc' := 24) (S' := [.inl ((m.1 18 1) + v2)]) dX1_whoseTurn_23 rfl (fun _ _ _ => rfl) ?_
      refine zf_ld (pc' := 25) (v := .inl v1) dX1_whoseTurn_24 rfl (fun _ _ _ => rfl) rfl rfl rfl ?_
      refine zf_rem (pc' := 26) dX1_whoseTurn_25 rfl (fun z => h.1 (congrArg Int32.toInt z)) ?_
      replace h := h.2
      refine zf_st (pc' := 27) (L2 := [some (.inr (.inr (1, 18))), some (.inl v1), some (.inl v2), some (.inl (((m.1 18 1) + v2) - ((m.1 18 1) + v2) / v1 * v1))]) dX1_whoseTurn_26 rfl (fun _ _ _ => rfl) rfl rfl rfl rfl rfl rfl ?_
      refine zf_ld (pc' := 28) (v := .inr (.inr (1, 18))) dX1_whoseTurn_27 rfl (fun _ _ _ => rfl) rfl rfl rfl ?_
      refine zf_gfr (pc' := 31) (b := 19) dX1_whoseTurn_28 rfl rfl (by decide) rfl rfl ?_
      refine zf_ld (pc' := 32) (v := .inl (((m.1 18 1) + v2) - ((m.1 18 1) + v2) / v1 * v1)) dX1_whoseTurn_31 rfl (fun _ _ _ => rfl) rfl rfl rfl ?_
      refine zf_iv (k := 53) (pc' := 35) (r := []) dX1_whoseTurn_32 rfl rfl rfl rfl zf_walk19.1 zf_walk19.2.1 rfl rfl (zr_53 (by omega) zf_walk19 h) (zf_kB (fun b1 m2 h => ?_))
      refine zf_ib_eq (tgt := 45) (pc' := 38) dX1_whoseTurn_35 rfl rfl (fun g => ?_) (fun g => ?_)
      · replace h := h.1 g
        refine zf_ii (y := (v2 + 1)) (L2 := [some (.inr (.inr (1, 18))), some (.inl v1), some (.inl (v2 + 1)), some (.inl (((m.1 18 1) + v2) - ((m.1 18 1) + v2) / v1 * v1))]) (pc' := 48) dX1_whoseTurn_45 rfl rfl rfl rfl rfl ?_
        refine zf_goto (tgt := 13) dX1_whoseTurn_48 rfl ?_
        exact zf_lo (ih _ _ _ h) ⟨rfl, rfl, rfl, trivial⟩
      · replace h := h.2 g
        refine zf_ld (pc' := 39) (v := .inr (.inr (1, 18))) dX1_whoseTurn_38 rfl (fun _ _ _ => rfl) rfl rfl rfl ?_
        refine zf_ld (pc' := 40) (v := .inl (((m.1 18 1) + v2) - ((m.1 18 1) + v2) / v1 * v1)) dX1_whoseTurn_39 rfl (fun _ _ _ => rfl) rfl rfl rfl ?_
        refine zf_pf (pc' := 43) dX1_whoseTurn_40 rfl rfl (by decide) rfl rfl rfl (fun m3 e4 => ?_)
        replace h := h m3 e4
        refine zf_ld (pc' := 44) (v := .inl (((m.1 18 1) + v2) - ((m.1 18 1) + v2) / v1 * v1)) dX1_whoseTurn_43 rfl (fun _ _ _ => rfl) rfl rfl rfl ?_
        exact zf_ri dX1_whoseTurn_44 rfl h
def wp_11 (m : zf_Me) (Q : Int32 → zf_Me → Prop) : Prop := (∃ n13, wq_11_13 Q n13 (m.1 3 5) 0 m)
theorem zr_11 {d : Nat} (hd : 2 ≤ d) {Q : Int32 → zf_Me → Prop} {m : zf_Me} (h : wp_11 m Q) : zf_M d 11 [.inr (.inr (1, 18))] m (zf_I Q) := by
  unfold wp_11 at h
  refine zf_M_of (Nat.le_of_ble_eq_true rfl) zm_11 (L := [some (.inr (.inr (1, 18))), none, none, none]) rfl ?_
  refine zf_ld (pc' := 1) (v := .inr (.inr (1, 18))) dX1_whoseTurn_0 rfl (fun _ _ _ => rfl) rfl rfl rfl ?_
  refine zf_gfr (pc' := 4) (b := 19) dX1_whoseTurn_1 rfl rfl (by decide) rfl rfl ?_
  refine zf_gfr (pc' := 7) (b := 3) dX1_whoseTurn_4 rfl rfl zf_walk19.1 zf_walk19.2.1 rfl ?_
  refine zf_gfi (pc' := 10) dX1_whoseTurn_7 rfl rfl zf_walk19.2.2.1.1 zf_walk19.2.2.1.2.1 rfl ?_
  refine zf_st (pc' := 11) (L2 := [some (.inr (.inr (1, 18))), some (.inl (m.1 3 5)), none, none]) dX1_whoseTurn_10 rfl (fun _ _ _ => rfl) rfl rfl rfl rfl rfl rfl ?_
  refine zf_ic (v := 0) (pc' := 12) dX1_whoseTurn_11 rfl rfl ?_
  refine zf_st (pc' := 13) (L2 := [some (.inr (.inr (1, 18))), some (.inl (m.1 3 5)), some (.inl 0), none]) dX1_whoseTurn_12 rfl (fun _ _ _ => rfl) rfl rfl rfl rfl rfl rfl ?_
  obtain ⟨n13, h⟩ := h
  exact zf_lo (zq_11_13 (by omega) n13 _ _ _ h) ⟨rfl, rfl, rfl, trivial⟩
def zt_12 : zx_MT := (1, yX1_freshest, cX1_freshest, 3, (some FieldType.int), 0, 0)
theorem zm_12 : zx_m 12 = zt_12 := rfl
theorem dX1_freshest_r0 : zdcP cX1_freshest 0 [(.iconst (-1), 1), (.istore_n 1, 1), (.iconst 0, 1), (.istore_n 2, 1), (.iload_n 2, 1), (.aload_n 0, 1), (.getfield 26, 3), (.getfield 60, 3), (.getfield 64, 3), (.if_icmp .ge 48, 3), (.aload_n 0, 1), (.getfield 26, 3), (.iload_n 2, 1), (.invokevirtual 85, 3), (.ifCond .eq 31, 3), (.iload_n 1, 1)] := zdcA_ok (by decide +kernel)
theorem dX1_freshest_0 : decode cX1_freshest 0 = .ok (.iconst (-1), 1) := dX1_freshest_r0.1
theorem dX1_freshest_1 : decode cX1_freshest 1 = .ok (.istore_n 1, 1) := dX1_freshest_r0.2.1
theorem dX1_freshest_2 : decode cX1_freshest 2 = .ok (.iconst 0, 1) := dX1_freshest_r0.2.2.1
theorem dX1_freshest_3 : decode cX1_freshest 3 = .ok (.istore_n 2, 1) := dX1_freshest_r0.2.2.2.1
theorem dX1_freshest_4 : decode cX1_freshest 4 = .ok (.iload_n 2, 1) := dX1_freshest_r0.2.2.2.2.1
theorem dX1_freshest_5 : decode cX1_freshest 5 = .ok (.aload_n 0, 1) := dX1_freshest_r0.2.2.2.2.2.1
theorem dX1_freshest_6 : decode cX1_freshest 6 = .ok (.getfield 26, 3) := dX1_freshest_r0.2.2.2.2.2.2.1
theorem dX1_freshest_9 : decode cX1_freshest 9 = .ok (.getfield 60, 3) := dX1_freshest_r0.2.2.2.2.2.2.2.1
theorem dX1_freshest_12 : decode cX1_freshest 12 = .ok (.getfield 64, 3) := dX1_freshest_r0.2.2.2.2.2.2.2.2.1
theorem dX1_freshest_15 : decode cX1_freshest 15 = .ok (.if_icmp .ge 48, 3) := dX1_freshest_r0.2.2.2.2.2.2.2.2.2.1
theorem dX1_freshest_18 : decode cX1_freshest 18 = .ok (.aload_n 0, 1) := dX1_freshest_r0.2.2.2.2.2.2.2.2.2.2.1
theorem dX1_freshest_19 : decode cX1_freshest 19 = .ok (.getfield 26, 3) := dX1_freshest_r0.2.2.2.2.2.2.2.2.2.2.2.1
theorem dX1_freshest_22 : decode cX1_freshest 22 = .ok (.iload_n 2, 1) := dX1_freshest_r0.2.2.2.2.2.2.2.2.2.2.2.2.1
theorem dX1_freshest_23 : decode cX1_freshest 23 = .ok (.invokevirtual 85, 3) := dX1_freshest_r0.2.2.2.2.2.2.2.2.2.2.2.2.2.1
theorem dX1_freshest_26 : decode cX1_freshest 26 = .ok (.ifCond .eq 31, 3) := dX1_freshest_r0.2.2.2.2.2.2.2.2.2.2.2.2.2.2.1
theorem dX1_freshest_29 : decode cX1_freshest 29 = .ok (.iload_n 1, 1) := dX1_freshest_r0.2.2.2.2.2.2.2.2.2.2.2.2.2.2.2.1
theorem dX1_freshest_r30 : zdcP cX1_freshest 30 [(.iconst (-1), 1), (.if_icmp .eq 24, 3), (.aload_n 0, 1), (.getfield 26, 3), (.getfield 88, 3), (.iload_n 2, 1), (.iaload, 1), (.aload_n 0, 1), (.getfield 26, 3), (.getfield 88, 3), (.iload_n 1, 1), (.iaload, 1), (.if_icmp .ge 5, 3), (.iload_n 2, 1), (.istore_n 1, 1), (.iinc 2 1, 3)] := zdcA_ok (by decide +kernel)
theorem dX1_freshest_30 : decode cX1_freshest 30 = .ok (.iconst (-1), 1) := dX1_freshest_r30.1
theorem dX1_freshest_31 : decode cX1_freshest 31 = .ok (.if_icmp .eq 24, 3) := dX1_freshest_r30.2.1
theorem dX1_freshest_34 : decode cX1_freshest 34 = .ok (.aload_n 0, 1) := dX1_freshest_r30.2.2.1
theorem dX1_freshest_35 : decode cX1_freshest 35 = .ok (.getfield 26, 3) := dX1_freshest_r30.2.2.2.1
theorem dX1_freshest_38 : decode cX1_freshest 38 = .ok (.getfield 88, 3) := dX1_freshest_r30.2.2.2.2.1
theorem dX1_freshest_41 : decode cX1_freshest 41 = .ok (.iload_n 2, 1) := dX1_freshest_r30.2.2.2.2.2.1
theorem dX1_freshest_42 : decode cX1_freshest 42 = .ok (.iaload, 1) := dX1_freshest_r30.2.2.2.2.2.2.1
theorem dX1_freshest_43 : decode cX1_freshest 43 = .ok (.aload_n 0, 1) := dX1_freshest_r30.2.2.2.2.2.2.2.1
theorem dX1_freshest_44 : decode cX1_freshest 44 = .ok (.getfield 26, 3) := dX1_freshest_r30.2.2.2.2.2.2.2.2.1
theorem dX1_freshest_47 : decode cX1_freshest 47 = .ok (.getfield 88, 3) := dX1_freshest_r30.2.2.2.2.2.2.2.2.2.1
theorem dX1_freshest_50 : decode cX1_freshest 50 = .ok (.iload_n 1, 1) := dX1_freshest_r30.2.2.2.2.2.2.2.2.2.2.1
theorem dX1_freshest_51 : decode cX1_freshest 51 = .ok (.iaload, 1) := dX1_freshest_r30.2.2.2.2.2.2.2.2.2.2.2.1
theorem dX1_freshest_52 : decode cX1_freshest 52 = .ok (.if_icmp .ge 5, 3) := dX1_freshest_r30.2.2.2.2.2.2.2.2.2.2.2.2.1
theorem dX1_freshest_55 : decode cX1_freshest 55 = .ok (.iload_n 2, 1) := dX1_freshest_r30.2.2.2.2.2.2.2.2.2.2.2.2.2.1
theorem dX1_freshest_56 : decode cX1_freshest 56 = .ok (.istore_n 1, 1) := dX1_freshest_r30.2.2.2.2.2.2.2.2.2.2.2.2.2.2.1
theorem dX1_freshest_57 : decode cX1_freshest 57 = .ok (.iinc 2 1, 3) := dX1_freshest_r30.2.2.2.2.2.2.2.2.2.2.2.2.2.2.2.1
theorem dX1_freshest_r60 : zdcP cX1_freshest 60 [(.goto (-56), 3), (.iload_n 1, 1), (.ireturn, 1)] := zdcA_ok (by decide +kernel)
theorem dX1_freshest_60 : decode cX1_freshest 60 = .ok (.goto (-56), 3) := dX1_freshest_r60.1
theorem dX1_freshest_63 : decode cX1_freshest 63 = .ok (.iload_n 1, 1) := dX1_freshest_r60.2.1
theorem dX1_freshest_64 : decode cX1_freshest 64 = .ok (.ireturn, 1) := dX1_freshest_r60.2.2.1
def wq_12_4 (Q : Int32 → zf_Me → Prop) : Nat → Int32 → Int32 → zf_Me → Prop
  | 0, _, _, _ => False
  | n + 1, v1, v2, m => ((v2.toInt ≥ ((m.1 3 5)).toInt → Q v1 m) ∧ (v2.toInt < ((m.1 3 5)).toInt → wp_53 19 3 20 v2 m (fun b1 m2 => ((b1 = false → wq_12_4 Q n v1 (v2 + 1) m2) ∧ (b1 = true → ((v1.toInt = (-1) → wq_12_4 Q n v2 (v2 + 1) m2) ∧ (¬ v1.toInt = (-1) → ((0 ≤ (Int32.toInt v2) ∧ (Int32.toInt v2) < (6 : Int)) ∧ ((0 ≤ (Int32.toInt v1) ∧ (Int32.toInt v1) < (6 : Int)) ∧ ((((m2.1 20 (Int32.toInt v2).toNat)).toInt ≥ ((m2.1 20 (Int32.toInt v1).toNat)).toInt → wq_12_4 Q n v1 (v2 + 1) m2) ∧ (((m2.1 20 (Int32.toInt v2).toNat)).toInt < ((m2.1 20 (Int32.toInt v1).toNat)).toInt → wq_12_4 Q n v2 (v2 + 1) m2)))))))))))
theorem zq_12_4 {d : Nat} (hd : 2 ≤ d) {Q : Int32 → zf_Me → Prop} : ∀ (n : Nat) (v1 : Int32) (v2 : Int32) (m : zf_Me), wq_12_4 Q n v1 v2 m → zf_W none 0 0 d zt_12 4 [some (.inr (.inr (1, 18))), some (.inl v1), some (.inl v2)] [] m (zf_I Q) := by
  obtain ⟨e, rfl⟩ : ∃ z, d = z + 1 := ⟨d - 1, by omega⟩
  intro n
  induction n with
  | zero =>
    intro v1 v2 m h
    exact h.elim
  | succ n ih =>
    intro v1 v2 m h
    unfold wq_12_4 at h
    refine zf_ld (pc' := 5) (v := .inl v2) dX1_freshest_4 rfl (fun _ _ _ => rfl) rfl rfl rfl ?_
    refine zf_ld (pc' := 6) (v := .inr (.inr (1, 18))) dX1_freshest_5 rfl (fun _ _ _ => rfl) rfl rfl rfl ?_
    refine zf_gfr (pc' := 9) (b := 19) dX1_freshest_6 rfl rfl (by decide) rfl rfl ?_
    refine zf_gfr (pc' := 12) (b := 3) dX1_freshest_9 rfl rfl zf_walk19.1 zf_walk19.2.1 rfl ?_
    refine zf_gfi (pc' := 15) dX1_freshest_12 rfl rfl zf_walk19.2.2.1.1 zf_walk19.2.2.1.2.1 rfl ?_
    refine zf_icmp_ge (tgt := 63) (pc' := 18) dX1_freshest_15 rfl rfl (fun g => ?_) (fun g => ?_)
    · replace h := h.1 g
      refine zf_ld (pc' := 64) (v := .inl v1) dX1_freshest_63 rfl (fun _ _ _ => rfl) rfl rfl rfl ?_
      exact zf_ri dX1_freshest_64 rfl h
    · replace h := h.2 g
      refine zf_ld (pc' := 19) (v := .inr (.inr (1, 18))) dX1_freshest_18 rfl (fun _ _ _ => rfl) rfl rfl rfl ?_
      refine zf_gfr (pc' := 22) (b := 19) dX1_freshest_19 rfl rfl (by decide) rfl rfl ?_
      refine zf_ld (pc' := 23) (v := .inl v2) dX1_freshest_22 rfl (fun _ _ _ => rfl) rfl rfl rfl ?_
      refine zf_iv (k := 53) (pc' := 26) (r := []) dX1_freshest_23 rfl rfl rfl rfl zf_walk19.1 zf_walk19.2.1 rfl rfl (zr_53 (by omega) zf_walk19 h) (zf_kB (fun b1 m2 h => ?_))
      refine zf_ib_eq (tgt := 57) (pc' := 29) dX1_freshest_26 rfl rfl (fun g => ?_) (fun g => ?_)
      · replace h := h.1 g
        refine zf_ii (y := (v2 + 1)) (L2 := [some (.inr (.inr (1, 18))), some (.inl v1), some (.inl (v2 + 1))]) (pc' := 60) dX1_freshest_57 rfl rfl rfl rfl rfl ?_
        refine zf_goto (tgt := 4) dX1_freshest_60 rfl ?_
        exact zf_lo (ih _ _ _ h) ⟨rfl, rfl, rfl, trivial⟩
      · replace h := h.2 g
        refine zf_ld (pc' := 30) (v := .inl v1) dX1_freshest_29 rfl (fun _ _ _ => rfl) rfl rfl rfl ?_
        refine zf_ic (v := (-1)) (pc' := 31) dX1_freshest_30 rfl rfl ?_
        refine zf_icmp_eq (tgt := 55) (pc' := 34) dX1_freshest_31 rfl rfl (fun g => ?_) (fun g => ?_)
        · replace h := h.1 g
          refine zf_ld (pc' := 56) (v := .inl v2) dX1_freshest_55 rfl (fun _ _ _ => rfl) rfl rfl rfl ?_
          refine zf_st (pc' := 57) (L2 := [some (.inr (.inr (1, 18))), some (.inl v2), some (.inl v2)]) dX1_freshest_56 rfl (fun _ _ _ => rfl) rfl rfl rfl rfl rfl rfl ?_
          refine zf_ii (y := (v2 + 1)) (L2 := [some (.inr (.inr (1, 18))), some (.inl v2), some (.inl (v2 + 1))]) (pc' := 60) dX1_freshest_57 rfl rfl rfl rfl rfl ?_
          refine zf_goto (tgt := 4) dX1_freshest_60 rfl ?_
          exact zf_lo (ih _ _ _ h) ⟨rfl, rfl, rfl, trivial⟩
        · replace h := h.2 g
          refine zf_ld (pc' := 35) (v := .inr (.inr (1, 18))) dX1_freshest_34 rfl (fun _ _ _ => rfl) rfl rfl rfl ?_
          refine zf_gfr (pc' := 38) (b := 19) dX1_freshest_35 rfl rfl (by decide) rfl rfl ?_
          refine zf_gfr (pc' := 41) (b := 20) dX1_freshest_38 rfl rfl zf_walk19.1 zf_walk19.2.1 rfl ?_
          refine zf_ld (pc' := 42) (v := .inl v2) dX1_freshest_41 rfl (fun _ _ _ => rfl) rfl rfl rfl ?_
          refine zf_ial (pc' := 43) dX1_freshest_42 rfl zf_walk19.2.2.2.1 zf_walk19.2.2.2.2 h.1 rfl ?_
          replace h := h.2
          refine zf_ld (pc' := 44) (v := .inr (.inr (1, 18))) dX1_freshest_43 rfl (fun _ _ _ => rfl) rfl rfl rfl ?_
          refine zf_gfr (pc' := 47) (b := 19) dX1_freshest_44 rfl rfl (by decide) rfl rfl ?_
          refine zf_gfr (pc' := 50) (b := 20) dX1_freshest_47 rfl rfl zf_walk19.1 zf_walk19.2.1 rfl ?_
          refine zf_ld (pc' := 51) (v := .inl v1) dX1_freshest_50 rfl (fun _ _ _ => rfl) rfl rfl rfl ?_
          refine zf_ial (pc' := 52) dX1_freshest_51 rfl zf_walk19.2.2.2.1 zf_walk19.2.2.2.2 h.1 rfl ?_
          replace h := h.2
          refine zf_icmp_ge (tgt := 57) (pc' := 55) dX1_freshest_52 rfl rfl (fun g => ?_) (fun g => ?_)
          · replace h := h.1 g
            refine zf_ii (y := (v2 + 1)) (L2 := [some (.inr (.inr (1, 18))), some (.inl v1), some (.inl (v2 + 1))]) (pc' := 60) dX1_freshest_57 rfl rfl rfl rfl rfl ?_
            refine zf_goto (tgt := 4) dX1_freshest_60 rfl ?_
            exact zf_lo (ih _ _ _ h) ⟨rfl, rfl, rfl, trivial⟩
          · replace h := h.2 g
            refine zf_ld (pc' := 56) (v := .inl v2) dX1_freshest_55 rfl (fun _ _ _ => rfl) rfl rfl rfl ?_
            refine zf_st (pc' := 57) (L2 := [some (.inr (.inr (1, 18))), some (.inl v2), some (.inl v2)]) dX1_freshest_56 rfl (fun _ _ _ => rfl) rfl rfl rfl rfl rfl rfl ?_
            refine zf_ii (y := (v2 + 1)) (L2 := [some (.inr (.inr (1, 18))), some (.inl v2), some (.inl (v2 + 1))]) (pc' := 60) dX1_freshest_57 rfl rfl rfl rfl rfl ?_
            refine zf_goto (tgt := 4) dX1_freshest_60 rfl ?_
            exact zf_lo (ih _ _ _ h) ⟨rfl, rfl, rfl, trivial⟩
def wp_12 (m : zf_Me) (Q : Int32 → zf_Me → Prop) : Prop := (∃ n4, wq_12_4 Q n4 (-1) 0 m)
theorem zr_12 {d : Nat} (hd : 2 ≤ d) {Q : Int32 → zf_Me → Prop} {m : zf_Me} (h : wp_12 m Q) : zf_M d 12 [.inr (.inr (1, 18))] m (zf_I Q) := by
  unfold wp_12 at h
  refine zf_M_of (Nat.le_of_ble_eq_true rfl) zm_12 (L := [some (.inr (.inr (1, 18))), none, none]) rfl ?_
  refine zf_ic (v := (-1)) (pc' := 1) dX1_freshest_0 rfl rfl ?_
  refine zf_st (pc' := 2) (L2 := [some (.inr (.inr (1, 18))), some (.inl (-1)), none]) dX1_freshest_1 rfl (fun _ _ _ => rfl) rfl rfl rfl rfl rfl rfl ?_
  refine zf_ic (v := 0) (pc' := 3) dX1_freshest_2 rfl rfl ?_
  refine zf_st (pc' := 4) (L2 := [some (.inr (.inr (1, 18))), some (.inl (-1)), some (.inl 0)]) dX1_freshest_3 rfl (fun _ _ _ => rfl) rfl rfl rfl rfl rfl rfl ?_
  obtain ⟨n4, h⟩ := h
  exact zf_lo (zq_12_4 (by omega) n4 _ _ _ h) ⟨rfl, rfl, rfl, trivial⟩
def zt_10 : zx_MT := (1, yX1_choose, cX1_choose, 3, (some FieldType.int), 1, 0)
theorem zm_10 : zx_m 10 = zt_10 := rfl
theorem dX1_choose_r0 : zdcP cX1_choose 0 [(.iload_n 1, 1), (.iconst 2, 1), (.if_icmp .lt 18, 3), (.aload_n 0, 1), (.getfield 26, 3), (.bipush 6, 2), (.invokevirtual 76, 3), (.ifCond .eq 6, 3), (.bipush 6, 2), (.ireturn, 1), (.iload_n 1, 1), (.iconst 3, 1), (.if_icmp .ne 18, 3), (.aload_n 0, 1), (.getfield 26, 3), (.bipush 7, 2)] := zdcA_ok (by decide +kernel)
theorem dX1_choose_0 : decode cX1_choose 0 = .ok (.iload_n 1, 1) := dX1_choose_r0.1
theorem dX1_choose_1 : decode cX1_choose 1 = .ok (.iconst 2, 1) := dX1_choose_r0.2.1
theorem dX1_choose_2 : decode cX1_choose 2 = .ok (.if_icmp .lt 18, 3) := dX1_choose_r0.2.2.1
theorem dX1_choose_5 : decode cX1_choose 5 = .ok (.aload_n 0, 1) := dX1_choose_r0.2.2.2.1
theorem dX1_choose_6 : decode cX1_choose 6 = .ok (.getfield 26, 3) := dX1_choose_r0.2.2.2.2.1
theorem dX1_choose_9 : decode cX1_choose 9 = .ok (.bipush 6, 2) := dX1_choose_r0.2.2.2.2.2.1
theorem dX1_choose_11 : decode cX1_choose 11 = .ok (.invokevirtual 76, 3) := dX1_choose_r0.2.2.2.2.2.2.1
theorem dX1_choose_14 : decode cX1_choose 14 = .ok (.ifCond .eq 6, 3) := dX1_choose_r0.2.2.2.2.2.2.2.1
theorem dX1_choose_17 : decode cX1_choose 17 = .ok (.bipush 6, 2) := dX1_choose_r0.2.2.2.2.2.2.2.2.1
theorem dX1_choose_19 : decode cX1_choose 19 = .ok (.ireturn, 1) := dX1_choose_r0.2.2.2.2.2.2.2.2.2.1
theorem dX1_choose_20 : decode cX1_choose 20 = .ok (.iload_n 1, 1) := dX1_choose_r0.2.2.2.2.2.2.2.2.2.2.1
theorem dX1_choose_21 : decode cX1_choose 21 = .ok (.iconst 3, 1) := dX1_choose_r0.2.2.2.2.2.2.2.2.2.2.2.1
theorem dX1_choose_22 : decode cX1_choose 22 = .ok (.if_icmp .ne 18, 3) := dX1_choose_r0.2.2.2.2.2.2.2.2.2.2.2.2.1
theorem dX1_choose_25 : decode cX1_choose 25 = .ok (.aload_n 0, 1) := dX1_choose_r0.2.2.2.2.2.2.2.2.2.2.2.2.2.1
theorem dX1_choose_26 : decode cX1_choose 26 = .ok (.getfield 26, 3) := dX1_choose_r0.2.2.2.2.2.2.2.2.2.2.2.2.2.2.1
theorem dX1_choose_29 : decode cX1_choose 29 = .ok (.bipush 7, 2) := dX1_choose_r0.2.2.2.2.2.2.2.2.2.2.2.2.2.2.2.1
theorem dX1_choose_r31 : zdcP cX1_choose 31 [(.invokevirtual 76, 3), (.ifCond .eq 6, 3), (.bipush 7, 2), (.ireturn, 1), (.iload_n 1, 1), (.iconst 3, 1), (.if_icmp .ne 18, 3), (.aload_n 0, 1), (.getfield 26, 3), (.bipush 8, 2), (.invokevirtual 76, 3), (.ifCond .eq 6, 3), (.bipush 8, 2), (.ireturn, 1), (.iload_n 1, 1), (.ifCond .ne 10, 3)] := zdcA_ok (by decide +kernel)
theorem dX1_choose_31 : decode cX1_choose 31 = .ok (.invokevirtual 76, 3) := dX1_choose_r31.1
theorem dX1_choose_34 : decode cX1_choose 34 = .ok (.ifCond .eq 6, 3) := dX1_choose_r31.2.1
theorem dX1_choose_37 : decode cX1_choose 37 = .ok (.bipush 7, 2) := dX1_choose_r31.2.2.1
theorem dX1_choose_39 : decode cX1_choose 39 = .ok (.ireturn, 1) := dX1_choose_r31.2.2.2.1
theorem dX1_choose_40 : decode cX1_choose 40 = .ok (.iload_n 1, 1) := dX1_choose_r31.2.2.2.2.1
theorem dX1_choose_41 : decode cX1_choose 41 = .ok (.iconst 3, 1) := dX1_choose_r31.2.2.2.2.2.1
theorem dX1_choose_42 : decode cX1_choose 42 = .ok (.if_icmp .ne 18, 3) := dX1_choose_r31.2.2.2.2.2.2.1
theorem dX1_choose_45 : decode cX1_choose 45 = .ok (.aload_n 0, 1) := dX1_choose_r31.2.2.2.2.2.2.2.1
theorem dX1_choose_46 : decode cX1_choose 46 = .ok (.getfield 26, 3) := dX1_choose_r31.2.2.2.2.2.2.2.2.1
theorem dX1_choose_49 : decode cX1_choose 49 = .ok (.bipush 8, 2) := dX1_choose_r31.2.2.2.2.2.2.2.2.2.1
theorem dX1_choose_51 : decode cX1_choose 51 = .ok (.invokevirtual 76, 3) := dX1_choose_r31.2.2.2.2.2.2.2.2.2.2.1
theorem dX1_choose_54 : decode cX1_choose 54 = .ok (.ifCond .eq 6, 3) := dX1_choose_r31.2.2.2.2.2.2.2.2.2.2.2.1
theorem dX1_choose_57 : decode cX1_choose 57 = .ok (.bipush 8, 2) := dX1_choose_r31.2.2.2.2.2.2.2.2.2.2.2.2.1
theorem dX1_choose_59 : decode cX1_choose 59 = .ok (.ireturn, 1) := dX1_choose_r31.2.2.2.2.2.2.2.2.2.2.2.2.2.1
theorem dX1_choose_60 : decode cX1_choose 60 = .ok (.iload_n 1, 1) := dX1_choose_r31.2.2.2.2.2.2.2.2.2.2.2.2.2.2.1
theorem dX1_choose_61 : decode cX1_choose 61 = .ok (.ifCond .ne 10, 3) := dX1_choose_r31.2.2.2.2.2.2.2.2.2.2.2.2.2.2.2.1
theorem dX1_choose_r64 : zdcP cX1_choose 64 [(.aload_n 0, 1), (.invokevirtual 79, 3), (.goto 7, 3), (.aload_n 0, 1), (.invokevirtual 82, 3), (.istore_n 2, 1), (.iload_n 2, 1), (.iconst (-1), 1), (.if_icmp .eq 5, 3), (.iload_n 2, 1), (.ireturn, 1), (.aload_n 0, 1), (.getfield 26, 3), (.bipush 6, 2), (.invokevirtual 76, 3), (.ifCond .eq 6, 3)] := zdcA_ok (by decide +kernel)
theorem dX1_choose_64 : decode cX1_choose 64 = .ok (.aload_n 0, 1) := dX1_choose_r64.1
theorem dX1_choose_65 : decode cX1_choose 65 = .ok (.invokevirtual 79, 3) := dX1_choose_r64.2.1
theorem dX1_choose_68 : decode cX1_choose 68 = .ok (.goto 7, 3) := dX1_choose_r64.2.2.1
theorem dX1_choose_71 : decode cX1_choose 71 = .ok (.aload_n 0, 1) := dX1_choose_r64.2.2.2.1
theorem dX1_choose_72 : decode cX1_choose 72 = .ok (.invokevirtual 82, 3) := dX1_choose_r64.2.2.2.2.1
theorem dX1_choose_75 : decode cX1_choose 75 = .ok (.istore_n 2, 1) := dX1_choose_r64.2.2.2.2.2.1
theorem dX1_choose_76 : decode cX1_choose 76 = .ok (.iload_n 2, 1) := dX1_choose_r64.2.2.2.2.2.2.1
theorem dX1_choose_77 : decode cX1_choose 77 = .ok (.iconst (-1), 1) := dX1_choose_r64.2.2.2.2.2.2.2.1
theorem dX1_choose_78 : decode cX1_choose 78 = .ok (.if_icmp .eq 5, 3) := dX1_choose_r64.2.2.2.2.2.2.2.2.1
theorem dX1_choose_81 : decode cX1_choose 81 = .ok (.iload_n 2, 1) := dX1_choose_r64.2.2.2.2.2.2.2.2.2.1
theorem dX1_choose_82 : decode cX1_choose 82 = .ok (.ireturn, 1) := dX1_choose_r64.2.2.2.2.2.2.2.2.2.2.1
theorem dX1_choose_83 : decode cX1_choose 83 = .ok (.aload_n 0, 1) := dX1_choose_r64.2.2.2.2.2.2.2.2.2.2.2.1
theorem dX1_choose_84 : decode cX1_choose 84 = .ok (.getfield 26, 3) := dX1_choose_r64.2.2.2.2.2.2.2.2.2.2.2.2.1
theorem dX1_choose_87 : decode cX1_choose 87 = .ok (.bipush 6, 2) := dX1_choose_r64.2.2.2.2.2.2.2.2.2.2.2.2.2.1
theorem dX1_choose_89 : decode cX1_choose 89 = .ok (.invokevirtual 76, 3) := dX1_choose_r64.2.2.2.2.2.2.2.2.2.2.2.2.2.2.1
theorem dX1_choose_92 : decode cX1_choose 92 = .ok (.ifCond .eq 6, 3) := dX1_choose_r64.2.2.2.2.2.2.2.2.2.2.2.2.2.2.2.1
theorem dX1_choose_r95 : zdcP cX1_choose 95 [(.bipush 6, 2), (.ireturn, 1), (.aload_n 0, 1), (.getfield 26, 3), (.bipush 9, 2), (.invokevirtual 76, 3), (.ifCond .eq 8, 3), (.bipush 9, 2), (.goto 4, 3), (.iconst (-1), 1), (.ireturn, 1)] := zdcA_ok (by decide +kernel)
theorem dX1_choose_95 : decode cX1_choose 95 = .ok (.bipush 6, 2) := dX1_choose_r95.1
theorem dX1_choose_97 : decode cX1_choose 97 = .ok (.ireturn, 1) := dX1_choose_r95.2.1
theorem dX1_choose_98 : decode cX1_choose 98 = .ok (.aload_n 0, 1) := dX1_choose_r95.2.2.1
theorem dX1_choose_99 : decode cX1_choose 99 = .ok (.getfield 26, 3) := dX1_choose_r95.2.2.2.1
theorem dX1_choose_102 : decode cX1_choose 102 = .ok (.bipush 9, 2) := dX1_choose_r95.2.2.2.2.1
theorem dX1_choose_104 : decode cX1_choose 104 = .ok (.invokevirtual 76, 3) := dX1_choose_r95.2.2.2.2.2.1
theorem dX1_choose_107 : decode cX1_choose 107 = .ok (.ifCond .eq 8, 3) := dX1_choose_r95.2.2.2.2.2.2.1
theorem dX1_choose_110 : decode cX1_choose 110 = .ok (.bipush 9, 2) := dX1_choose_r95.2.2.2.2.2.2.2.1
theorem dX1_choose_112 : decode cX1_choose 112 = .ok (.goto 4, 3) := dX1_choose_r95.2.2.2.2.2.2.2.2.1
theorem dX1_choose_115 : decode cX1_choose 115 = .ok (.iconst (-1), 1) := dX1_choose_r95.2.2.2.2.2.2.2.2.2.1
theorem dX1_choose_116 : decode cX1_choose 116 = .ok (.ireturn, 1) := dX1_choose_r95.2.2.2.2.2.2.2.2.2.2.1
def wq_10_75 (v1 : Int32) (u0 : Int32) (m : zf_Me) (Q : Int32 → zf_Me → Prop) : Prop := ((u0.toInt = (-1) → wp_52 19 3 20 6 m (fun b3 m4 => ((b3 = false → wp_52 19 3 20 9 m4 (fun b5 m6 => ((b5 = false → Q (-1) m6) ∧ (b5 = true → Q 9 m6)))) ∧ (b3 = true → Q 6 m4)))) ∧ (¬ u0.toInt = (-1) → Q u0 m))
theorem zq_10_75 {d : Nat} (hd : 3 ≤ d) {v1 : Int32} {Q : Int32 → zf_Me → Prop} {u0 : Int32} {m : zf_Me} (h : wq_10_75 v1 u0 m Q) : zf_W none 0 0 d zt_10 75 [some (.inr (.inr (1, 18))), none, none] [.inl u0] m (zf_I Q) := by
  obtain ⟨e, rfl⟩ : ∃ z, d = z + 1 := ⟨d - 1, by omega⟩
  unfold wq_10_75 at h
  refine zf_st (pc' := 76) (L2 := [some (.inr (.inr (1, 18))), none, some (.inl u0)]) dX1_choose_75 rfl (fun _ _ _ => rfl) rfl rfl rfl rfl rfl rfl ?_
  refine zf_ld (pc' := 77) (v := .inl u0) dX1_choose_76 rfl (fun _ _ _ => rfl) rfl rfl rfl ?_
  refine zf_ic (v := (-1)) (pc' := 78) dX1_choose_77 rfl rfl ?_
  refine zf_icmp_eq (tgt := 83) (pc' := 81) dX1_choose_78 rfl rfl (fun g => ?_) (fun g => ?_)
  · replace h := h.1 g
    refine zf_ld (pc' := 84) (v := .inr (.inr (1, 18))) dX1_choose_83 rfl (fun _ _ _ => rfl) rfl rfl rfl ?_
    refine zf_gfr (pc' := 87) (b := 19) dX1_choose_84 rfl rfl (by decide) rfl rfl ?_
    refine zf_bi (v := 6) (pc' := 89) dX1_choose_87 rfl rfl ?_
    refine zf_iv (k := 52) (pc' := 92) (r := []) dX1_choose_89 rfl rfl rfl rfl zf_walk19.1 zf_walk19.2.1 rfl rfl (zr_52 (by omega) zf_walk19 h) (zf_kB (fun b3 m4 h => ?_))
    refine zf_ib_eq (tgt := 98) (pc' := 95) dX1_choose_92 rfl rfl (fun g => ?_) (fun g => ?_)
    · replace h := h.1 g
      refine zf_ld (pc' := 99) (v := .inr (.inr (1, 18))) dX1_choose_98 rfl (fun _ _ _ => rfl) rfl rfl rfl ?_
      refine zf_gfr (pc' := 102) (b := 19) dX1_choose_99 rfl rfl (by decide) rfl rfl ?_
      refine zf_bi (v := 9) (pc' := 104) dX1_choose_102 rfl rfl ?_
      refine zf_iv (k := 52) (pc' := 107) (r := []) dX1_choose_104 rfl rfl rfl rfl zf_walk19.1 zf_walk19.2.1 rfl rfl (zr_52 (by omega) zf_walk19 h) (zf_kB (fun b5 m6 h => ?_))
      refine zf_ib_eq (tgt := 115) (pc' := 110) dX1_choose_107 rfl rfl (fun g => ?_) (fun g => ?_)
      · replace h := h.1 g
        refine zf_ic (v := (-1)) (pc' := 116) dX1_choose_115 rfl rfl ?_
        exact zf_ri dX1_choose_116 rfl h
      · replace h := h.2 g
        refine zf_bi (v := 9) (pc' := 112) dX1_choose_110 rfl rfl ?_
        refine zf_goto (tgt := 116) dX1_choose_112 rfl ?_
        exact zf_ri dX1_choose_116 rfl h
    · replace h := h.2 g
      refine zf_bi (v := 6) (pc' := 97) dX1_choose_95 rfl rfl ?_
      exact zf_ri dX1_choose_97 rfl h
  · replace h := h.2 g
    refine zf_ld (pc' := 82) (v := .inl u0) dX1_choose_81 rfl (fun _ _ _ => rfl) rfl rfl rfl ?_
    exact zf_ri dX1_choose_82 rfl h
def wq_10_60 (v1 : Int32) (m : zf_Me) (Q : Int32 → zf_Me → Prop) : Prop := ((¬ v1.toInt = 0 → wp_12 m (fun x1 m2 => wq_10_75 v1 x1 m2 Q)) ∧ (v1.toInt = 0 → wp_11 m (fun x7 m8 => wq_10_75 v1 x7 m8 Q)))
theorem zq_10_60 {d : Nat} (hd : 3 ≤ d) {v1 : Int32} {Q : Int32 → zf_Me → Prop} {m : zf_Me} (h : wq_10_60 v1 m Q) : zf_W none 0 0 d zt_10 60 [some (.inr (.inr (1, 18))), some (.inl v1), none] [] m (zf_I Q) := by
  obtain ⟨e, rfl⟩ : ∃ z, d = z + 1 := ⟨d - 1, by omega⟩
  unfold wq_10_60 at h
  refine zf_ld (pc' := 61) (v := .inl v1) dX1_choose_60 rfl (fun _ _ _ => rfl) rfl rfl rfl ?_
  refine zf_if_ne (tgt := 71) (pc' := 64) dX1_choose_61 rfl rfl (fun g => ?_) (fun g => ?_)
  · replace h := h.1 g
    refine zf_ld (pc' := 72) (v := .inr (.inr (1, 18))) dX1_choose_71 rfl (fun _ _ _ => rfl) rfl rfl rfl ?_
    refine zf_iv (k := 12) (pc' := 75) (r := []) dX1_choose_72 rfl rfl rfl rfl (by decide) rfl rfl rfl (zr_12 (by omega) h) (zf_kI (fun x1 m2 h => ?_))
    exact zf_lo (zq_10_75 (by omega) h) ⟨rfl, trivial⟩
  · replace h := h.2 g
    refine zf_ld (pc' := 65) (v := .inr (.inr (1, 18))) dX1_choose_64 rfl (fun _ _ _ => rfl) rfl rfl rfl ?_
    refine zf_iv (k := 11) (pc' := 68) (r := []) dX1_choose_65 rfl rfl rfl rfl (by decide) rfl rfl rfl (zr_11 (by omega) h) (zf_kI (fun x7 m8 h => ?_))
    refine zf_goto (tgt := 75) dX1_choose_68 rfl ?_
    exact zf_lo (zq_10_75 (by omega) h) ⟨rfl, trivial⟩
def wq_10_40 (v1 : Int32) (m : zf_Me) (Q : Int32 → zf_Me → Prop) : Prop := ((¬ v1.toInt = 3 → wq_10_60 v1 m Q) ∧ (v1.toInt = 3 → wp_52 19 3 20 8 m (fun b9 m10 => ((b9 = false → wq_10_60 v1 m10 Q) ∧ (b9 = true → Q 8 m10)))))
theorem zq_10_40 {d : Nat} (hd : 3 ≤ d) {v1 : Int32} {Q : Int32 → zf_Me → Prop} {m : zf_Me} (h : wq_10_40 v1 m Q) : zf_W none 0 0 d zt_10 40 [some (.inr (.inr (1, 18))), some (.inl v1), none] [] m (zf_I Q) := by
  obtain ⟨e, rfl⟩ : ∃ z, d = z + 1 := ⟨d - 1, by omega⟩
  unfold wq_10_40 at h
  refine zf_ld (pc' := 41) (v := .inl v1) dX1_choose_40 rfl (fun _ _ _ => rfl) rfl rfl rfl ?_
  refine zf_ic (v := 3) (pc' := 42) dX1_choose_41 rfl rfl ?_
  refine zf_icmp_ne (tgt := 60) (pc' := 45) dX1_choose_42 rfl rfl (fun g => ?_) (fun g => ?_)
  · replace h := h.1 g
    exact zf_lo (zq_10_60 (by omega) h) ⟨rfl, rfl, trivial⟩
  · replace h := h.2 g
    refine zf_ld (pc' := 46) (v := .inr (.inr (1, 18))) dX1_choose_45 rfl (fun _ _ _ => rfl) rfl rfl rfl ?_
    refine zf_gfr (pc' := 49) (b := 19) dX1_choose_46 rfl rfl (by decide) rfl rfl ?_
    refine zf_bi (v := 8) (pc' := 51) dX1_choose_49 rfl rfl ?_
    refine zf_iv (k := 52) (pc' := 54) (r := []) dX1_choose_51 rfl rfl rfl rfl zf_walk19.1 zf_walk19.2.1 rfl rfl (zr_52 (by omega) zf_walk19 h) (zf_kB (fun b9 m10 h => ?_))
    refine zf_ib_eq (tgt := 60) (pc' := 57) dX1_choose_54 rfl rfl (fun g => ?_) (fun g => ?_)
    · replace h := h.1 g
      exact zf_lo (zq_10_60 (by omega) h) ⟨rfl, rfl, trivial⟩
    · replace h := h.2 g
      refine zf_bi (v := 8) (pc' := 59) dX1_choose_57 rfl rfl ?_
      exact zf_ri dX1_choose_59 rfl h
def wq_10_20 (v1 : Int32) (m : zf_Me) (Q : Int32 → zf_Me → Prop) : Prop := ((¬ v1.toInt = 3 → wq_10_40 v1 m Q) ∧ (v1.toInt = 3 → wp_52 19 3 20 7 m (fun b11 m12 => ((b11 = false → wq_10_40 v1 m12 Q) ∧ (b11 = true → Q 7 m12)))))
theorem zq_10_20 {d : Nat} (hd : 3 ≤ d) {v1 : Int32} {Q : Int32 → zf_Me → Prop} {m : zf_Me} (h : wq_10_20 v1 m Q) : zf_W none 0 0 d zt_10 20 [some (.inr (.inr (1, 18))), some (.inl v1), none] [] m (zf_I Q) := by
  obtain ⟨e, rfl⟩ : ∃ z, d = z + 1 := ⟨d - 1, by omega⟩
  unfold wq_10_20 at h
  refine zf_ld (pc' := 21) (v := .inl v1) dX1_choose_20 rfl (fun _ _ _ => rfl) rfl rfl rfl ?_
  refine zf_ic (v := 3) (pc' := 22) dX1_choose_21 rfl rfl ?_
  refine zf_icmp_ne (tgt := 40) (pc' := 25) dX1_choose_22 rfl rfl (fun g => ?_) (fun g => ?_)
  · replace h := h.1 g
    exact zf_lo (zq_10_40 (by omega) h) ⟨rfl, rfl, trivial⟩
  · replace h := h.2 g
    refine zf_ld (pc' := 26) (v := .inr (.inr (1, 18))) dX1_choose_25 rfl (fun _ _ _ => rfl) rfl rfl rfl ?_
    refine zf_gfr (pc' := 29) (b := 19) dX1_choose_26 rfl rfl (by decide) rfl rfl ?_
    refine zf_bi (v := 7) (pc' := 31) dX1_choose_29 rfl rfl ?_
    refine zf_iv (k := 52) (pc' := 34) (r := []) dX1_choose_31 rfl rfl rfl rfl zf_walk19.1 zf_walk19.2.1 rfl rfl (zr_52 (by omega) zf_walk19 h) (zf_kB (fun b11 m12 h => ?_))
    refine zf_ib_eq (tgt := 40) (pc' := 37) dX1_choose_34 rfl rfl (fun g => ?_) (fun g => ?_)
    · replace h := h.1 g
      exact zf_lo (zq_10_40 (by omega) h) ⟨rfl, rfl, trivial⟩
    · replace h := h.2 g
      refine zf_bi (v := 7) (pc' := 39) dX1_choose_37 rfl rfl ?_
      exact zf_ri dX1_choose_39 rfl h
def wp_10 (v1 : Int32) (m : zf_Me) (Q : Int32 → zf_Me → Prop) : Prop := ((v1.toInt < 2 → wq_10_20 v1 m Q) ∧ (v1.toInt ≥ 2 → wp_52 19 3 20 6 m (fun b13 m14 => ((b13 = false → wq_10_20 v1 m14 Q) ∧ (b13 = true → Q 6 m14)))))
theorem zr_10 {d : Nat} (hd : 3 ≤ d) {v1 : Int32} {Q : Int32 → zf_Me → Prop} {m : zf_Me} (h : wp_10 v1 m Q) : zf_M d 10 [.inr (.inr (1, 18)), .inl v1] m (zf_I Q) := by
  obtain ⟨e, rfl⟩ : ∃ z, d = z + 1 := ⟨d - 1, by omega⟩
  unfold wp_10 at h
  refine zf_M_of (Nat.le_of_ble_eq_true rfl) zm_10 (L := [some (.inr (.inr (1, 18))), some (.inl v1), none]) rfl ?_
  refine zf_ld (pc' := 1) (v := .inl v1) dX1_choose_0 rfl (fun _ _ _ => rfl) rfl rfl rfl ?_
  refine zf_ic (v := 2) (pc' := 2) dX1_choose_1 rfl rfl ?_
  refine zf_icmp_lt (tgt := 20) (pc' := 5) dX1_choose_2 rfl rfl (fun g => ?_) (fun g => ?_)
  · replace h := h.1 g
    exact zf_lo (zq_10_20 (by omega) h) ⟨rfl, rfl, trivial⟩
  · replace h := h.2 g
    refine zf_ld (pc' := 6) (v := .inr (.inr (1, 18))) dX1_choose_5 rfl (fun _ _ _ => rfl) rfl rfl rfl ?_
    refine zf_gfr (pc' := 9) (b := 19) dX1_choose_6 rfl rfl (by decide) rfl rfl ?_
    refine zf_bi (v := 6) (pc' := 11) dX1_choose_9 rfl rfl ?_
    refine zf_iv (k := 52) (pc' := 14) (r := []) dX1_choose_11 rfl rfl rfl rfl zf_walk19.1 zf_walk19.2.1 rfl rfl (zr_52 (by omega) zf_walk19 h) (zf_kB (fun b13 m14 h => ?_))
    refine zf_ib_eq (tgt := 20) (pc' := 17) dX1_choose_14 rfl rfl (fun g => ?_) (fun g => ?_)
    · replace h := h.1 g
      exact zf_lo (zq_10_20 (by omega) h) ⟨rfl, rfl, trivial⟩
    · replace h := h.2 g
      refine zf_bi (v := 6) (pc' := 19) dX1_choose_17 rfl rfl ?_
      exact zf_ri dX1_choose_19 rfl h
def zt_118 : zx_MT := (7, yX7_restOfKind, cX7_restOfKind, 1, (some FieldType.int), 1, 1)
theorem zm_118 : zx_m 118 = zt_118 := rfl
theorem dX7_restOfKind_r0 : zdcP cX7_restOfKind 0 [(.iload_n 0, 1), (.iconst 3, 1), (.if_icmp .ne 7, 3), (.iconst 3, 1), (.goto 4, 3), (.iconst 2, 1), (.ireturn, 1)] := zdcA_ok (by decide +kernel)
theorem dX7_restOfKind_0 : decode cX7_restOfKind 0 = .ok (.iload_n 0, 1) := dX7_restOfKind_r0.1
theorem dX7_restOfKind_1 : decode cX7_restOfKind 1 = .ok (.iconst 3, 1) := dX7_restOfKind_r0.2.1
theorem dX7_restOfKind_2 : decode cX7_restOfKind 2 = .ok (.if_icmp .ne 7, 3) := dX7_restOfKind_r0.2.2.1
theorem dX7_restOfKind_5 : decode cX7_restOfKind 5 = .ok (.iconst 3, 1) := dX7_restOfKind_r0.2.2.2.1
theorem dX7_restOfKind_6 : decode cX7_restOfKind 6 = .ok (.goto 4, 3) := dX7_restOfKind_r0.2.2.2.2.1
theorem dX7_restOfKind_9 : decode cX7_restOfKind 9 = .ok (.iconst 2, 1) := dX7_restOfKind_r0.2.2.2.2.2.1
theorem dX7_restOfKind_10 : decode cX7_restOfKind 10 = .ok (.ireturn, 1) := dX7_restOfKind_r0.2.2.2.2.2.2.1
def wp_118 (v0 : Int32) (m : zf_Me) (Q : Int32 → zf_Me → Prop) : Prop := ((¬ v0.toInt = 3 → Q 2 m) ∧ (v0.toInt = 3 → Q 3 m))
theorem zr_118 {d : Nat} (hd : 0 ≤ d) {v0 : Int32} {Q : Int32 → zf_Me → Prop} {m : zf_Me} (h : wp_118 v0 m Q) : zf_M d 118 [.inl v0] m (zf_I Q) := by
  unfold wp_118 at h
  refine zf_M_of (Nat.le_of_ble_eq_true rfl) zm_118 (L := [some (.inl v0)]) rfl ?_
  refine zf_ld (pc' := 1) (v := .inl v0) dX7_restOfKind_0 rfl (fun _ _ _ => rfl) rfl rfl rfl ?_
  refine zf_ic (v := 3) (pc' := 2) dX7_restOfKind_1 rfl rfl ?_
  refine zf_icmp_ne (tgt := 9) (pc' := 5) dX7_restOfKind_2 rfl rfl (fun g => ?_) (fun g => ?_)
  · replace h := h.1 g
    refine zf_ic (v := 2) (pc' := 10) dX7_restOfKind_9 rfl rfl ?_
    exact zf_ri dX7_restOfKind_10 rfl h
  · replace h := h.2 g
    refine zf_ic (v := 3) (pc' := 6) dX7_restOfKind_5 rfl rfl ?_
    refine zf_goto (tgt := 10) dX7_restOfKind_6 rfl ?_
    exact zf_ri dX7_restOfKind_10 rfl h
def zt_59 : zx_MT := (5, yX5_restOthers, cX5_restOthers, 4, none, 1, 0)
theorem zm_59 : zx_m 59 = zt_59 := rfl
theorem dX5_restOthers_r0 : zdcP cX5_restOthers 0 [(.iconst 0, 1), (.istore_n 2, 1), (.iload_n 2, 1), (.aload_n 0, 1), (.getfield 49, 3), (.getfield 64, 3), (.if_icmp .ge 59, 3), (.iload_n 2, 1), (.iload_n 1, 1), (.if_icmp .eq 48, 3), (.aload_n 0, 1), (.getfield 49, 3), (.getfield 59, 3), (.iload_n 2, 1), (.iaload, 1), (.invokestatic 127, 3)] := zdcA_ok (by decide +kernel)
theorem dX5_restOthers_0 : decode cX5_restOthers 0 = .ok (.iconst 0, 1) := dX5_restOthers_r0.1
theorem dX5_restOthers_1 : decode cX5_restOthers 1 = .ok (.istore_n 2, 1) := dX5_restOthers_r0.2.1
theorem dX5_restOthers_2 : decode cX5_restOthers 2 = .ok (.iload_n 2, 1) := dX5_restOthers_r0.2.2.1
theorem dX5_restOthers_3 : decode cX5_restOthers 3 = .ok (.aload_n 0, 1) := dX5_restOthers_r0.2.2.2.1
theorem dX5_restOthers_4 : decode cX5_restOthers 4 = .ok (.getfield 49, 3) := dX5_restOthers_r0.2.2.2.2.1
theorem dX5_restOthers_7 : decode cX5_restOthers 7 = .ok (.getfield 64, 3) := dX5_restOthers_r0.2.2.2.2.2.1
theorem dX5_restOthers_10 : decode cX5_restOthers 10 = .ok (.if_icmp .ge 59, 3) := dX5_restOthers_r0.2.2.2.2.2.2.1
theorem dX5_restOthers_13 : decode cX5_restOthers 13 = .ok (.iload_n 2, 1) := dX5_restOthers_r0.2.2.2.2.2.2.2.1
theorem dX5_restOthers_14 : decode cX5_restOthers 14 = .ok (.iload_n 1, 1) := dX5_restOthers_r0.2.2.2.2.2.2.2.2.1
theorem dX5_restOthers_15 : decode cX5_restOthers 15 = .ok (.if_icmp .eq 48, 3) := dX5_restOthers_r0.2.2.2.2.2.2.2.2.2.1
theorem dX5_restOthers_18 : decode cX5_restOthers 18 = .ok (.aload_n 0, 1) := dX5_restOthers_r0.2.2.2.2.2.2.2.2.2.2.1
theorem dX5_restOthers_19 : decode cX5_restOthers 19 = .ok (.getfield 49, 3) := dX5_restOthers_r0.2.2.2.2.2.2.2.2.2.2.2.1
theorem dX5_restOthers_22 : decode cX5_restOthers 22 = .ok (.getfield 59, 3) := dX5_restOthers_r0.2.2.2.2.2.2.2.2.2.2.2.2.1
theorem dX5_restOthers_25 : decode cX5_restOthers 25 = .ok (.iload_n 2, 1) := dX5_restOthers_r0.2.2.2.2.2.2.2.2.2.2.2.2.2.1
theorem dX5_restOthers_26 : decode cX5_restOthers 26 = .ok (.iaload, 1) := dX5_restOthers_r0.2.2.2.2.2.2.2.2.2.2.2.2.2.2.1
theorem dX5_restOthers_27 : decode cX5_restOthers 27 = .ok (.invokestatic 127, 3) := dX5_restOthers_r0.2.2.2.2.2.2.2.2.2.2.2.2.2.2.2.1
theorem dX5_restOthers_r30 : zdcP cX5_restOthers 30 [(.aload_n 0, 1), (.getfield 15, 3), (.iload_n 2, 1), (.if_icmp .ne 7, 3), (.iconst 1, 1), (.goto 4, 3), (.iconst 0, 1), (.isub, 1), (.istore_n 3, 1), (.aload_n 0, 1), (.getfield 9, 3), (.iload_n 2, 1), (.iconst 0, 1), (.aload_n 0, 1), (.getfield 9, 3), (.iload_n 2, 1)] := zdcA_ok (by decide +kernel)
theorem dX5_restOthers_30 : decode cX5_restOthers 30 = .ok (.aload_n 0, 1) := dX5_restOthers_r30.1
theorem dX5_restOthers_31 : decode cX5_restOthers 31 = .ok (.getfield 15, 3) := dX5_restOthers_r30.2.1
theorem dX5_restOthers_34 : decode cX5_restOthers 34 = .ok (.iload_n 2, 1) := dX5_restOthers_r30.2.2.1
theorem dX5_restOthers_35 : decode cX5_restOthers 35 = .ok (.if_icmp .ne 7, 3) := dX5_restOthers_r30.2.2.2.1
theorem dX5_restOthers_38 : decode cX5_restOthers 38 = .ok (.iconst 1, 1) := dX5_restOthers_r30.2.2.2.2.1
theorem dX5_restOthers_39 : decode cX5_restOthers 39 = .ok (.goto 4, 3) := dX5_restOthers_r30.2.2.2.2.2.1
theorem dX5_restOthers_42 : decode cX5_restOthers 42 = .ok (.iconst 0, 1) := dX5_restOthers_r30.2.2.2.2.2.2.1
theorem dX5_restOthers_43 : decode cX5_restOthers 43 = .ok (.isub, 1) := dX5_restOthers_r30.2.2.2.2.2.2.2.1
theorem dX5_restOthers_44 : decode cX5_restOthers 44 = .ok (.istore_n 3, 1) := dX5_restOthers_r30.2.2.2.2.2.2.2.2.1
theorem dX5_restOthers_45 : decode cX5_restOthers 45 = .ok (.aload_n 0, 1) := dX5_restOthers_r30.2.2.2.2.2.2.2.2.2.1
theorem dX5_restOthers_46 : decode cX5_restOthers 46 = .ok (.getfield 9, 3) := dX5_restOthers_r30.2.2.2.2.2.2.2.2.2.2.1
theorem dX5_restOthers_49 : decode cX5_restOthers 49 = .ok (.iload_n 2, 1) := dX5_restOthers_r30.2.2.2.2.2.2.2.2.2.2.2.1
theorem dX5_restOthers_50 : decode cX5_restOthers 50 = .ok (.iconst 0, 1) := dX5_restOthers_r30.2.2.2.2.2.2.2.2.2.2.2.2.1
theorem dX5_restOthers_51 : decode cX5_restOthers 51 = .ok (.aload_n 0, 1) := dX5_restOthers_r30.2.2.2.2.2.2.2.2.2.2.2.2.2.1
theorem dX5_restOthers_52 : decode cX5_restOthers 52 = .ok (.getfield 9, 3) := dX5_restOthers_r30.2.2.2.2.2.2.2.2.2.2.2.2.2.2.1
theorem dX5_restOthers_55 : decode cX5_restOthers 55 = .ok (.iload_n 2, 1) := dX5_restOthers_r30.2.2.2.2.2.2.2.2.2.2.2.2.2.2.2.1
theorem dX5_restOthers_r56 : zdcP cX5_restOthers 56 [(.iaload, 1), (.iload_n 3, 1), (.isub, 1), (.invokestatic 79, 3), (.iastore, 1), (.iinc 2 1, 3), (.goto (-64), 3), (.return_, 1)] := zdcA_ok (by decide +kernel)
theorem dX5_restOthers_56 : decode cX5_restOthers 56 = .ok (.iaload, 1) := dX5_restOthers_r56.1
theorem dX5_restOthers_57 : decode cX5_restOthers 57 = .ok (.iload_n 3, 1) := dX5_restOthers_r56.2.1
theorem dX5_restOthers_58 : decode cX5_restOthers 58 = .ok (.isub, 1) := dX5_restOthers_r56.2.2.1
theorem dX5_restOthers_59 : decode cX5_restOthers 59 = .ok (.invokestatic 79, 3) := dX5_restOthers_r56.2.2.2.1
theorem dX5_restOthers_62 : decode cX5_restOthers 62 = .ok (.iastore, 1) := dX5_restOthers_r56.2.2.2.2.1
theorem dX5_restOthers_63 : decode cX5_restOthers 63 = .ok (.iinc 2 1, 3) := dX5_restOthers_r56.2.2.2.2.2.1
theorem dX5_restOthers_66 : decode cX5_restOthers 66 = .ok (.goto (-64), 3) := dX5_restOthers_r56.2.2.2.2.2.2.1
theorem dX5_restOthers_69 : decode cX5_restOthers 69 = .ok (.return_, 1) := dX5_restOthers_r56.2.2.2.2.2.2.2.1
def wq_59_43 (w0 : Nat) (y0 : Nat) (r0 : Nat) (v1 : Int32) (F2 : Int32 → zf_Me → Prop) (v2 : Int32) (u0 : Int32) (u1 : Int32) (m : zf_Me) (Q : zf_Me → Prop) : Prop := ((0 ≤ (Int32.toInt v2) ∧ (Int32.toInt v2) < (6 : Int)) ∧ ((0 ≤ (Int32.toInt v2) ∧ (Int32.toInt v2) < (6 : Int)) ∧ ∀ m3, m3 = zf_u m r0 (Int32.toInt v2).toNat (if 0 < ((m.1 r0 (Int32.toInt v2).toNat) - (u1 - u0)) then ((m.1 r0 (Int32.toInt v2).toNat) - (u1 - u0)) else 0) → F2 (v2 + 1) m3))
theorem zq_59_43 {d : Nat} (hd : 1 ≤ d) {w0 : Nat} {y0 : Nat} {r0 : Nat} (hp0 : zf_walk w0 y0 r0) {v1 : Int32} {F2 : Int32 → zf_Me → Prop} {Q : zf_Me → Prop} (hF2 : ∀ (v2 : Int32) (m : zf_Me), F2 v2 m → zf_W none 0 0 d zt_59 2 [some (.inr (.inr (1, w0))), some (.inl v1), some (.inl v2), none] [] m (zf_O Q)) {v2 : Int32} {u0 : Int32} {u1 : Int32} {m : zf_Me} (h : wq_59_43 w0 y0 r0 v1 F2 v2 u0 u1 m Q) : zf_W none 0 0 d zt_59 43 [some (.inr (.inr (1, w0))), some (.inl v1), some (.inl v2), none] [.inl u0, .inl u1] m (zf_O Q) := by
  unfold wq_59_43 at h
  refine zf_in (pc' := 44) (S' := [.inl (u1 - u0)]) dX5_restOthers_43 rfl (fun _ _ _ => rfl) ?_
  refine zf_st (pc' := 45) (L2 := [some (.inr (.inr (1, w0))), some (.inl v1), some (.inl v2), some (.inl (u1 - u0))]) dX5_restOthers_44 rfl (fun _ _ _ => rfl) rfl rfl rfl rfl rfl rfl ?_
  refine zf_ld (pc' := 46) (v := .inr (.inr (1, w0))) dX5_restOthers_45 rfl (fun _ _ _ => rfl) rfl rfl rfl ?_
  refine zf_gfr (pc' := 49) (b := r0) dX5_restOthers_46 rfl rfl hp0.1 hp0.2.1 rfl ?_
  refine zf_ld (pc' := 50) (v := .inl v2) dX5_restOthers_49 rfl (fun _ _ _ => rfl) rfl rfl rfl ?_
  refine zf_ic (v := 0) (pc' := 51) dX5_restOthers_50 rfl rfl ?_
  refine zf_ld (pc' := 52) (v := .inr (.inr (1, w0))) dX5_restOthers_51 rfl (fun _ _ _ => rfl) rfl rfl rfl ?_
  refine zf_gfr (pc' := 55) (b := r0) dX5_restOthers_52 rfl rfl hp0.1 hp0.2.1 rfl ?_
  refine zf_ld (pc' := 56) (v := .inl v2) dX5_restOthers_55 rfl (fun _ _ _ => rfl) rfl rfl rfl ?_
  refine zf_ial (pc' := 57) dX5_restOthers_56 rfl hp0.2.2.2.1 hp0.2.2.2.2 h.1 rfl ?_
  replace h := h.2
  refine zf_ld (pc' := 58) (v := .inl (u1 - u0)) dX5_restOthers_57 rfl (fun _ _ _ => rfl) rfl rfl rfl ?_
  refine zf_in (pc' := 59) (S' := [.inl ((m.1 r0 (Int32.toInt v2).toNat) - (u1 - u0)), .inl 0, .inl v2, .inr (.inr (1, r0))]) dX5_restOthers_58 rfl (fun _ _ _ => rfl) ?_
  refine zf_max (pc' := 62) dX5_restOthers_59 rfl rfl rfl ?_
  refine zf_ias (pc' := 63) dX5_restOthers_62 rfl hp0.2.2.2.1 hp0.2.2.2.2 h.1 rfl (fun m3 e4 => ?_)
  replace h := h.2 m3 e4
  refine zf_ii (y := (v2 + 1)) (L2 := [some (.inr (.inr (1, w0))), some (.inl v1), some (.inl (v2 + 1)), some (.inl (u1 - u0))]) (pc' := 66) dX5_restOthers_63 rfl rfl rfl rfl rfl ?_
  refine zf_goto (tgt := 2) dX5_restOthers_66 rfl ?_
  exact zf_lo (hF2 _ _ h) ⟨rfl, rfl, rfl, trivial⟩
def wq_59_2 (w0 : Nat) (y0 : Nat) (r0 : Nat) (v1 : Int32) (Q : zf_Me → Prop) : Nat → Int32 → zf_Me → Prop
  | 0, _, _ => False
  | n + 1, v2, m => ((v2.toInt ≥ ((m.1 y0 5)).toInt → Q m) ∧ (v2.toInt < ((m.1 y0 5)).toInt → ((v2.toInt = v1.toInt → wq_59_2 w0 y0 r0 v1 Q n (v2 + 1) m) ∧ (¬ v2.toInt = v1.toInt → ((0 ≤ (Int32.toInt v2) ∧ (Int32.toInt v2) < (6 : Int)) ∧ wp_118 (m.1 (y0 + 3) (Int32.toInt v2).toNat) m (fun x1 m2 => ((¬ ((m2.1 w0 2)).toInt = v2.toInt → wq_59_43 w0 y0 r0 v1 (wq_59_2 w0 y0 r0 v1 Q n) v2 0 x1 m2 Q) ∧ (((m2.1 w0 2)).toInt = v2.toInt → wq_59_43 w0 y0 r0 v1 (wq_59_2 w0 y0 r0 v1 Q n) v2 1 x1 m2 Q))))))))
theorem zq_59_2 {d : Nat} (hd : 1 ≤ d) {w0 : Nat} {y0 : Nat} {r0 : Nat} (hp0 : zf_walk w0 y0 r0) {v1 : Int32} {Q : zf_Me → Prop} : ∀ (n : Nat) (v2 : Int32) (m : zf_Me), wq_59_2 w0 y0 r0 v1 Q n v2 m → zf_W none 0 0 d zt_59 2 [some (.inr (.inr (1, w0))), some (.inl v1), some (.inl v2), none] [] m (zf_O Q) := by
  obtain ⟨e, rfl⟩ : ∃ z, d = z + 1 := ⟨d - 1, by omega⟩
  intro n
  induction n with
  | zero =>
    intro v2 m h
    exact h.elim
  | succ n ih =>
    intro v2 m h
    unfold wq_59_2 at h
    refine zf_ld (pc' := 3) (v := .inl v2) dX5_restOthers_2 rfl (fun _ _ _ => rfl) rfl rfl rfl ?_
    refine zf_ld (pc' := 4) (v := .inr (.inr (1, w0))) dX5_restOthers_3 rfl (fun _ _ _ => rfl) rfl rfl rfl ?_
    refine zf_gfr (pc' := 7) (b := y0) dX5_restOthers_4 rfl rfl hp0.1 hp0.2.1 rfl ?_
    refine zf_gfi (pc' := 10) dX5_restOthers_7 rfl rfl hp0.2.2.1.1 hp0.2.2.1.2.1 rfl ?_
    refine zf_icmp_ge (tgt := 69) (pc' := 13) dX5_restOthers_10 rfl rfl (fun g => ?_) (fun g => ?_)
    · replace h := h.1 g
      exact zf_rv dX5_restOthers_69 rfl h
    · replace h := h.2 g
      refine zf_ld (pc' := 14) (v := .inl v2) dX5_restOthers_13 rfl (fun _ _ _ => rfl) rfl rfl rfl ?_
      refine zf_ld (pc' := 15) (v := .inl v1) dX5_restOthers_14 rfl (fun _ _ _ => rfl) rfl rfl rfl ?_
      refine zf_icmp_eq (tgt := 63) (pc' := 18) dX5_restOthers_15 rfl rfl (fun g => ?_) (fun g => ?_)
      · replace h := h.1 g
        refine zf_ii (y := (v2 + 1)) (L2 := [some (.inr (.inr (1, w0))), some (.inl v1), some (.inl (v2 + 1)), none]) (pc' := 66) dX5_restOthers_63 rfl rfl rfl rfl rfl ?_
        refine zf_goto (tgt := 2) dX5_restOthers_66 rfl ?_
        exact zf_lo (ih _ _ h) ⟨rfl, rfl, rfl, trivial⟩
      · replace h := h.2 g
        refine zf_ld (pc' := 19) (v := .inr (.inr (1, w0))) dX5_restOthers_18 rfl (fun _ _ _ => rfl) rfl rfl rfl ?_
        refine zf_gfr (pc' := 22) (b := y0) dX5_restOthers_19 rfl rfl hp0.1 hp0.2.1 rfl ?_
        refine zf_gfr (pc' := 25) (b := (y0 + 3)) dX5_restOthers_22 rfl rfl hp0.2.2.1.1 hp0.2.2.1.2.1 rfl ?_
        refine zf_ld (pc' := 26) (v := .inl v2) dX5_restOthers_25 rfl (fun _ _ _ => rfl) rfl rfl rfl ?_
        refine zf_ial (pc' := 27) dX5_restOthers_26 rfl hp0.2.2.1.2.2.2.2.1.1 hp0.2.2.1.2.2.2.2.1.2 h.1 rfl ?_
        replace h := h.2
        refine zf_is (k := 118) (pc' := 30) (r := []) dX5_restOthers_27 rfl rfl rfl rfl rfl (zr_118 (by omega) h) (zf_kI (fun x1 m2 h => ?_))
        refine zf_ld (pc' := 31) (v := .inr (.inr (1, w0))) dX5_restOthers_30 rfl (fun _ _ _ => rfl) rfl rfl rfl ?_
        refine zf_gfi (pc' := 34) dX5_restOthers_31 rfl rfl hp0.1 hp0.2.1 rfl ?_
        refine zf_ld (pc' := 35) (v := .inl v2) dX5_restOthers_34 rfl (fun _ _ _ => rfl) rfl rfl rfl ?_
        refine zf_icmp_ne (tgt := 42) (pc' := 38) dX5_restOthers_35 rfl rfl (fun g => ?_) (fun g => ?_)
        · replace h := h.1 g
          refine zf_ic (v := 0) (pc' := 43) dX5_restOthers_42 rfl rfl ?_
          exact zf_lo (zq_59_43 (by omega) hp0 ih h) ⟨rfl, rfl, rfl, trivial⟩
        · replace h := h.2 g
          refine zf_ic (v := 1) (pc' := 39) dX5_restOthers_38 rfl rfl ?_
          refine zf_goto (tgt := 43) dX5_restOthers_39 rfl ?_
          exact zf_lo (zq_59_43 (by omega) hp0 ih h) ⟨rfl, rfl, rfl, trivial⟩
def wp_59 (w0 : Nat) (y0 : Nat) (r0 : Nat) (v1 : Int32) (m : zf_Me) (Q : zf_Me → Prop) : Prop := (∃ n2, wq_59_2 w0 y0 r0 v1 Q n2 0 m)
theorem zr_59 {d : Nat} (hd : 1 ≤ d) {w0 : Nat} {y0 : Nat} {r0 : Nat} (hp0 : zf_walk w0 y0 r0) {v1 : Int32} {Q : zf_Me → Prop} {m : zf_Me} (h : wp_59 w0 y0 r0 v1 m Q) : zf_M d 59 [.inr (.inr (1, w0)), .inl v1] m (zf_O Q) := by
  unfold wp_59 at h
  refine zf_M_of (Nat.le_of_ble_eq_true rfl) zm_59 (L := [some (.inr (.inr (1, w0))), some (.inl v1), none, none]) rfl ?_
  refine zf_ic (v := 0) (pc' := 1) dX5_restOthers_0 rfl rfl ?_
  refine zf_st (pc' := 2) (L2 := [some (.inr (.inr (1, w0))), some (.inl v1), some (.inl 0), none]) dX5_restOthers_1 rfl (fun _ _ _ => rfl) rfl rfl rfl rfl rfl rfl ?_
  obtain ⟨n2, h⟩ := h
  exact zf_lo (zq_59_2 (by omega) hp0 n2 _ _ h) ⟨rfl, rfl, rfl, trivial⟩
end
section
/-! part 26: methods 57..: laid by wip/flat/dec.py -/
def zt_57 : zx_MT := (5, yX5_walk, cX5_walk, 1, none, 0, 0)
theorem zm_57 : zx_m 57 = zt_57 := rfl
theorem dX5_walk_r0 : zdcP cX5_walk 0 [(.aload_n 0, 1), (.dup, 1), (.getfield 22, 3), (.iconst 1, 1), (.isub, 1), (.putfield 22, 3), (.aload_n 0, 1), (.iconst 0, 1), (.putfield 28, 3), (.aload_n 0, 1), (.dup, 1), (.getfield 43, 3), (.bipush 9, 2), (.aload_n 0, 1), (.getfield 49, 3), (.getfield 102, 3)] := zdcA_ok (by decide +kernel)
theorem dX5_walk_0 : decode cX5_walk 0 = .ok (.aload_n 0, 1) := dX5_walk_r0.1
theorem dX5_walk_1 : decode cX5_walk 1 = .ok (.dup, 1) := dX5_walk_r0.2.1
theorem dX5_walk_2 : decode cX5_walk 2 = .ok (.getfield 22, 3) := dX5_walk_r0.2.2.1
theorem dX5_walk_5 : decode cX5_walk 5 = .ok (.iconst 1, 1) := dX5_walk_r0.2.2.2.1
theorem dX5_walk_6 : decode cX5_walk 6 = .ok (.isub, 1) := dX5_walk_r0.2.2.2.2.1
theorem dX5_walk_7 : decode cX5_walk 7 = .ok (.putfield 22, 3) := dX5_walk_r0.2.2.2.2.2.1
theorem dX5_walk_10 : decode cX5_walk 10 = .ok (.aload_n 0, 1) := dX5_walk_r0.2.2.2.2.2.2.1
theorem dX5_walk_11 : decode cX5_walk 11 = .ok (.iconst 0, 1) := dX5_walk_r0.2.2.2.2.2.2.2.1
theorem dX5_walk_12 : decode cX5_walk 12 = .ok (.putfield 28, 3) := dX5_walk_r0.2.2.2.2.2.2.2.2.1
theorem dX5_walk_15 : decode cX5_walk 15 = .ok (.aload_n 0, 1) := dX5_walk_r0.2.2.2.2.2.2.2.2.2.1
theorem dX5_walk_16 : decode cX5_walk 16 = .ok (.dup, 1) := dX5_walk_r0.2.2.2.2.2.2.2.2.2.2.1
theorem dX5_walk_17 : decode cX5_walk 17 = .ok (.getfield 43, 3) := dX5_walk_r0.2.2.2.2.2.2.2.2.2.2.2.1
theorem dX5_walk_20 : decode cX5_walk 20 = .ok (.bipush 9, 2) := dX5_walk_r0.2.2.2.2.2.2.2.2.2.2.2.2.1
theorem dX5_walk_22 : decode cX5_walk 22 = .ok (.aload_n 0, 1) := dX5_walk_r0.2.2.2.2.2.2.2.2.2.2.2.2.2.1
theorem dX5_walk_23 : decode cX5_walk 23 = .ok (.getfield 49, 3) := dX5_walk_r0.2.2.2.2.2.2.2.2.2.2.2.2.2.2.1
theorem dX5_walk_26 : decode cX5_walk 26 = .ok (.getfield 102, 3) := dX5_walk_r0.2.2.2.2.2.2.2.2.2.2.2.2.2.2.2.1
theorem dX5_walk_r29 : zdcP cX5_walk 29 [(.aload_n 0, 1), (.getfield 40, 3), (.iaload, 1), (.iadd, 1), (.iadd, 1), (.putfield 43, 3), (.aload_n 0, 1), (.iconst (-1), 1), (.invokevirtual 124, 3), (.aload_n 0, 1), (.dup, 1), (.getfield 40, 3), (.iconst 1, 1), (.iadd, 1), (.putfield 40, 3), (.return_, 1)] := zdcA_ok (by decide +kernel)
theorem dX5_walk_29 : decode cX5_walk 29 = .ok (.aload_n 0, 1) := dX5_walk_r29.1
theorem dX5_walk_30 : decode cX5_walk 30 = .ok (.getfield 40, 3) := dX5_walk_r29.2.1
theorem dX5_walk_33 : decode cX5_walk 33 = .ok (.iaload, 1) := dX5_walk_r29.2.2.1
theorem dX5_walk_34 : decode cX5_walk 34 = .ok (.iadd, 1) := dX5_walk_r29.2.2.2.1
theorem dX5_walk_35 : decode cX5_walk 35 = .ok (.iadd, 1) := dX5_walk_r29.2.2.2.2.1
theorem dX5_walk_36 : decode cX5_walk 36 = .ok (.putfield 43, 3) := dX5_walk_r29.2.2.2.2.2.1
theorem dX5_walk_39 : decode cX5_walk 39 = .ok (.aload_n 0, 1) := dX5_walk_r29.2.2.2.2.2.2.1
theorem dX5_walk_40 : decode cX5_walk 40 = .ok (.iconst (-1), 1) := dX5_walk_r29.2.2.2.2.2.2.2.1
theorem dX5_walk_41 : decode cX5_walk 41 = .ok (.invokevirtual 124, 3) := dX5_walk_r29.2.2.2.2.2.2.2.2.1
theorem dX5_walk_44 : decode cX5_walk 44 = .ok (.aload_n 0, 1) := dX5_walk_r29.2.2.2.2.2.2.2.2.2.1
theorem dX5_walk_45 : decode cX5_walk 45 = .ok (.dup, 1) := dX5_walk_r29.2.2.2.2.2.2.2.2.2.2.1
theorem dX5_walk_46 : decode cX5_walk 46 = .ok (.getfield 40, 3) := dX5_walk_r29.2.2.2.2.2.2.2.2.2.2.2.1
theorem dX5_walk_49 : decode cX5_walk 49 = .ok (.iconst 1, 1) := dX5_walk_r29.2.2.2.2.2.2.2.2.2.2.2.2.1
theorem dX5_walk_50 : decode cX5_walk 50 = .ok (.iadd, 1) := dX5_walk_r29.2.2.2.2.2.2.2.2.2.2.2.2.2.1
theorem dX5_walk_51 : decode cX5_walk 51 = .ok (.putfield 40, 3) := dX5_walk_r29.2.2.2.2.2.2.2.2.2.2.2.2.2.2.1
theorem dX5_walk_54 : decode cX5_walk 54 = .ok (.return_, 1) := dX5_walk_r29.2.2.2.2.2.2.2.2.2.2.2.2.2.2.2.1
def wp_57 (w0 : Nat) (y0 : Nat) (r0 : Nat) (m : zf_Me) (Q : zf_Me → Prop) : Prop := (∀ m1, m1 = zf_u m w0 4 ((m.1 w0 4) - 1) → (∀ m3, m3 = zf_u m1 w0 6 0 → ((0 ≤ (Int32.toInt (m3.1 w0 10)) ∧ (Int32.toInt (m3.1 w0 10)) < (24 : Int)) ∧ (∀ m5, m5 = zf_u m3 w0 11 ((m3.1 w0 11) + (9 + (m3.1 (y0 + 1) (Int32.toInt (m3.1 w0 10)).toNat))) → wp_59 w0 y0 r0 (-1) m5 (fun m8 => (∀ m9, m9 = zf_u m8 w0 10 ((m8.1 w0 10) + 1) → Q m9))))))
theorem zr_57 {d : Nat} (hd : 2 ≤ d) {w0 : Nat} {y0 : Nat} {r0 : Nat} (hp0 : zf_walk w0 y0 r0) {Q : zf_Me → Prop} {m : zf_Me} (h : wp_57 w0 y0 r0 m Q) : zf_M d 57 [.inr (.inr (1, w0))] m (zf_O Q) := by
  obtain ⟨e, rfl⟩ : ∃ z, d = z + 1 := ⟨d - 1, by omega⟩
  unfold wp_57 at h
  refine zf_M_of (Nat.le_of_ble_eq_true rfl) zm_57 (L := [some (.inr (.inr (1, w0)))]) rfl ?_
  refine zf_ld (pc' := 1) (v := .inr (.inr (1, w0))) dX5_walk_0 rfl (fun _ _ _ => rfl) rfl rfl rfl ?_
  refine zf_in (pc' := 2) (S' := [.inr (.inr (1, w0)), .inr (.inr (1, w0))]) dX5_walk_1 rfl (fun _ _ _ => rfl) ?_
  refine zf_gfi (pc' := 5) dX5_walk_2 rfl rfl hp0.1 hp0.2.1 rfl ?_
  refine zf_ic (v := 1) (pc' := 6) dX5_walk_5 rfl rfl ?_
  refine zf_in (pc' := 7) (S' := [.inl ((m.1 w0 4) - 1), .inr (.inr (1, w0))]) dX5_walk_6 rfl (fun _ _ _ => rfl) ?_
  refine zf_pf (pc' := 10) dX5_walk_7 rfl rfl hp0.1 hp0.2.1 rfl rfl (fun m1 e2 => ?_)
  replace h := h m1 e2
  refine zf_ld (pc' := 11) (v := .inr (.inr (1, w0))) dX5_walk_10 rfl (fun _ _ _ => rfl) rfl rfl rfl ?_
  refine zf_ic (v := 0) (pc' := 12) dX5_walk_11 rfl rfl ?_
  refine zf_pf (pc' := 15) dX5_walk_12 rfl rfl hp0.1 hp0.2.1 rfl rfl (fun m3 e4 => ?_)
  replace h := h m3 e4
  refine zf_ld (pc' := 16) (v := .inr (.inr (1, w0))) dX5_walk_15 rfl (fun _ _ _ => rfl) rfl rfl rfl ?_
  refine zf_in (pc' := 17) (S' := [.inr (.inr (1, w0)), .inr (.inr (1, w0))]) dX5_walk_16 rfl (fun _ _ _ => rfl) ?_
  refine zf_gfi (pc' := 20) dX5_walk_17 rfl rfl hp0.1 hp0.2.1 rfl ?_
  refine zf_bi (v := 9) (pc' := 22) dX5_walk_20 rfl rfl ?_
  refine zf_ld (pc' := 23) (v := .inr (.inr (1, w0))) dX5_walk_22 rfl (fun _ _ _ => rfl) rfl rfl rfl ?_
  refine zf_gfr (pc' := 26) (b := y0) dX5_walk_23 rfl rfl hp0.1 hp0.2.1 rfl ?_
  refine zf_gfr (pc' := 29) (b := (y0 + 1)) dX5_walk_26 rfl rfl hp0.2.2.1.1 hp0.2.2.1.2.1 rfl ?_
  refine zf_ld (pc' := 30) (v := .inr (.inr (1, w0))) dX5_walk_29 rfl (fun _ _ _ => rfl) rfl rfl rfl ?_
  refine zf_gfi (pc' := 33) dX5_walk_30 rfl rfl hp0.1 hp0.2.1 rfl ?_
  refine zf_ial (pc' := 34) dX5_walk_33 rfl hp0.2.2.1.2.2.1.1 hp0.2.2.1.2.2.1.2 h.1 rfl ?_
  replace h := h.2
  refine zf_in (pc' := 35) (S' := [.inl (9 + (m3.1 (y0 + 1) (Int32.toInt (m3.1 w0 10)).toNat)), .inl (m3.1 w0 11), .inr (.inr (1, w0))]) dX5_walk_34 rfl (fun _ _ _ => rfl) ?_
  refine zf_in (pc' := 36) (S' := [.inl ((m3.1 w0 11) + (9 + (m3.1 (y0 + 1) (Int32.toInt (m3.1 w0 10)).toNat))), .inr (.inr (1, w0))]) dX5_walk_35 rfl (fun _ _ _ => rfl) ?_
  refine zf_pf (pc' := 39) dX5_walk_36 rfl rfl hp0.1 hp0.2.1 rfl rfl (fun m5 e6 => ?_)
  replace h := h m5 e6
  refine zf_ld (pc' := 40) (v := .inr (.inr (1, w0))) dX5_walk_39 rfl (fun _ _ _ => rfl) rfl rfl rfl ?_
  refine zf_ic (v := (-1)) (pc' := 41) dX5_walk_40 rfl rfl ?_
  refine zf_iv (k := 59) (pc' := 44) (r := []) dX5_walk_41 rfl rfl rfl rfl hp0.1 hp0.2.1 rfl rfl (zr_59 (by omega) hp0 h) (zf_kO (fun m8 h => ?_))
  refine zf_ld (pc' := 45) (v := .inr (.inr (1, w0))) dX5_walk_44 rfl (fun _ _ _ => rfl) rfl rfl rfl ?_
  refine zf_in (pc' := 46) (S' := [.inr (.inr (1, w0)), .inr (.inr (1, w0))]) dX5_walk_45 rfl (fun _ _ _ => rfl) ?_
  refine zf_gfi (pc' := 49) dX5_walk_46 rfl rfl hp0.1 hp0.2.1 rfl ?_
  refine zf_ic (v := 1) (pc' := 50) dX5_walk_49 rfl rfl ?_
  refine zf_in (pc' := 51) (S' := [.inl ((m8.1 w0 10) + 1), .inr (.inr (1, w0))]) dX5_walk_50 rfl (fun _ _ _ => rfl) ?_
  refine zf_pf (pc' := 54) dX5_walk_51 rfl rfl hp0.1 hp0.2.1 rfl rfl (fun m9 e10 => ?_)
  replace h := h m9 e10
  exact zf_rv dX5_walk_54 rfl h
def zt_60 : zx_MT := (5, yX5_restAll, cX5_restAll, 2, none, 0, 0)
theorem zm_60 : zx_m 60 = zt_60 := rfl
theorem dX5_restAll_r0 : zdcP cX5_restAll 0 [(.aload_n 0, 1), (.dup, 1), (.getfield 43, 3), (.bipush 10, 2), (.iadd, 1), (.putfield 43, 3), (.aload_n 0, 1), (.iconst 0, 1), (.putfield 28, 3), (.aload_n 0, 1), (.aload_n 0, 1), (.getfield 22, 3), (.aload_n 0, 1), (.getfield 19, 3), (.invokestatic 79, 3), (.putfield 22, 3)] := zdcA_ok (by decide +kernel)
theorem dX5_restAll_0 : decode cX5_restAll 0 = .ok (.aload_n 0, 1) := dX5_restAll_r0.1
theorem dX5_restAll_1 : decode cX5_restAll 1 = .ok (.dup, 1) := dX5_restAll_r0.2.1
theorem dX5_restAll_2 : decode cX5_restAll 2 = .ok (.getfield 43, 3) := dX5_restAll_r0.2.2.1
theorem dX5_restAll_5 : decode cX5_restAll 5 = .ok (.bipush 10, 2) := dX5_restAll_r0.2.2.2.1
theorem dX5_restAll_7 : decode cX5_restAll 7 = .ok (.iadd, 1) := dX5_restAll_r0.2.2.2.2.1
theorem dX5_restAll_8 : decode cX5_restAll 8 = .ok (.putfield 43, 3) := dX5_restAll_r0.2.2.2.2.2.1
theorem dX5_restAll_11 : decode cX5_restAll 11 = .ok (.aload_n 0, 1) := dX5_restAll_r0.2.2.2.2.2.2.1
theorem dX5_restAll_12 : decode cX5_restAll 12 = .ok (.iconst 0, 1) := dX5_restAll_r0.2.2.2.2.2.2.2.1
theorem dX5_restAll_13 : decode cX5_restAll 13 = .ok (.putfield 28, 3) := dX5_restAll_r0.2.2.2.2.2.2.2.2.1
theorem dX5_restAll_16 : decode cX5_restAll 16 = .ok (.aload_n 0, 1) := dX5_restAll_r0.2.2.2.2.2.2.2.2.2.1
theorem dX5_restAll_17 : decode cX5_restAll 17 = .ok (.aload_n 0, 1) := dX5_restAll_r0.2.2.2.2.2.2.2.2.2.2.1
theorem dX5_restAll_18 : decode cX5_restAll 18 = .ok (.getfield 22, 3) := dX5_restAll_r0.2.2.2.2.2.2.2.2.2.2.2.1
theorem dX5_restAll_21 : decode cX5_restAll 21 = .ok (.aload_n 0, 1) := dX5_restAll_r0.2.2.2.2.2.2.2.2.2.2.2.2.1
theorem dX5_restAll_22 : decode cX5_restAll 22 = .ok (.getfield 19, 3) := dX5_restAll_r0.2.2.2.2.2.2.2.2.2.2.2.2.2.1
theorem dX5_restAll_25 : decode cX5_restAll 25 = .ok (.invokestatic 79, 3) := dX5_restAll_r0.2.2.2.2.2.2.2.2.2.2.2.2.2.2.1
theorem dX5_restAll_28 : decode cX5_restAll 28 = .ok (.putfield 22, 3) := dX5_restAll_r0.2.2.2.2.2.2.2.2.2.2.2.2.2.2.2.1
theorem dX5_restAll_r31 : zdcP cX5_restAll 31 [(.iconst 0, 1), (.istore_n 1, 1), (.iload_n 1, 1), (.aload_n 0, 1), (.getfield 49, 3), (.getfield 64, 3), (.if_icmp .ge 28, 3), (.aload_n 0, 1), (.getfield 9, 3), (.iload_n 1, 1), (.iconst 0, 1), (.aload_n 0, 1), (.getfield 9, 3), (.iload_n 1, 1), (.iaload, 1), (.bipush 6, 2)] := zdcA_ok (by decide +kernel)
theorem dX5_restAll_31 : decode cX5_restAll 31 = .ok (.iconst 0, 1) := dX5_restAll_r31.1
theorem dX5_restAll_32 : decode cX5_restAll 32 = .ok (.istore_n 1, 1) := dX5_restAll_r31.2.1
theorem dX5_restAll_33 : decode cX5_restAll 33 = .ok (.iload_n 1, 1) := dX5_restAll_r31.2.2.1
theorem dX5_restAll_34 : decode cX5_restAll 34 = .ok (.aload_n 0, 1) := dX5_restAll_r31.2.2.2.1
theorem dX5_restAll_35 : decode cX5_restAll 35 = .ok (.getfield 49, 3) := dX5_restAll_r31.2.2.2.2.1
theorem dX5_restAll_38 : decode cX5_restAll 38 = .ok (.getfield 64, 3) := dX5_restAll_r31.2.2.2.2.2.1
theorem dX5_restAll_41 : decode cX5_restAll 41 = .ok (.if_icmp .ge 28, 3) := dX5_restAll_r31.2.2.2.2.2.2.1
theorem dX5_restAll_44 : decode cX5_restAll 44 = .ok (.aload_n 0, 1) := dX5_restAll_r31.2.2.2.2.2.2.2.1
theorem dX5_restAll_45 : decode cX5_restAll 45 = .ok (.getfield 9, 3) := dX5_restAll_r31.2.2.2.2.2.2.2.2.1
theorem dX5_restAll_48 : decode cX5_restAll 48 = .ok (.iload_n 1, 1) := dX5_restAll_r31.2.2.2.2.2.2.2.2.2.1
theorem dX5_restAll_49 : decode cX5_restAll 49 = .ok (.iconst 0, 1) := dX5_restAll_r31.2.2.2.2.2.2.2.2.2.2.1
theorem dX5_restAll_50 : decode cX5_restAll 50 = .ok (.aload_n 0, 1) := dX5_restAll_r31.2.2.2.2.2.2.2.2.2.2.2.1
theorem dX5_restAll_51 : decode cX5_restAll 51 = .ok (.getfield 9, 3) := dX5_restAll_r31.2.2.2.2.2.2.2.2.2.2.2.2.1
theorem dX5_restAll_54 : decode cX5_restAll 54 = .ok (.iload_n 1, 1) := dX5_restAll_r31.2.2.2.2.2.2.2.2.2.2.2.2.2.1
theorem dX5_restAll_55 : decode cX5_restAll 55 = .ok (.iaload, 1) := dX5_restAll_r31.2.2.2.2.2.2.2.2.2.2.2.2.2.2.1
theorem dX5_restAll_56 : decode cX5_restAll 56 = .ok (.bipush 6, 2) := dX5_restAll_r31.2.2.2.2.2.2.2.2.2.2.2.2.2.2.2.1
theorem dX5_restAll_r58 : zdcP cX5_restAll 58 [(.isub, 1), (.invokestatic 79, 3), (.iastore, 1), (.iinc 1 1, 3), (.goto (-33), 3), (.return_, 1)] := zdcA_ok (by decide +kernel)
theorem dX5_restAll_58 : decode cX5_restAll 58 = .ok (.isub, 1) := dX5_restAll_r58.1
theorem dX5_restAll_59 : decode cX5_restAll 59 = .ok (.invokestatic 79, 3) := dX5_restAll_r58.2.1
theorem dX5_restAll_62 : decode cX5_restAll 62 = .ok (.iastore, 1) := dX5_restAll_r58.2.2.1
theorem dX5_restAll_63 : decode cX5_restAll 63 = .ok (.iinc 1 1, 3) := dX5_restAll_r58.2.2.2.1
theorem dX5_restAll_66 : decode cX5_restAll 66 = .ok (.goto (-33), 3) := dX5_restAll_r58.2.2.2.2.1
theorem dX5_restAll_69 : decode cX5_restAll 69 = .ok (.return_, 1) := dX5_restAll_r58.2.2.2.2.2.1
def wq_60_33 (w0 : Nat) (y0 : Nat) (r0 : Nat) (Q : zf_Me → Prop) : Nat → Int32 → zf_Me → Prop
  | 0, _, _ => False
  | n + 1, v1, m => ((v1.toInt ≥ ((m.1 y0 5)).toInt → Q m) ∧ (v1.toInt < ((m.1 y0 5)).toInt → ((0 ≤ (Int32.toInt v1) ∧ (Int32.toInt v1) < (6 : Int)) ∧ ((0 ≤ (Int32.toInt v1) ∧ (Int32.toInt v1) < (6 : Int)) ∧ ∀ m7, m7 = zf_u m r0 (Int32.toInt v1).toNat (if 0 < ((m.1 r0 (Int32.toInt v1).toNat) - 6) then ((m.1 r0 (Int32.toInt v1).toNat) - 6) else 0) → wq_60_33 w0 y0 r0 Q n (v1 + 1) m7))))
theorem zq_60_33 {d : Nat} (hd : 0 ≤ d) {w0 : Nat} {y0 : Nat} {r0 : Nat} (hp0 : zf_walk w0 y0 r0) {Q : zf_Me → Prop} : ∀ (n : Nat) (v1 : Int32) (m : zf_Me), wq_60_33 w0 y0 r0 Q n v1 m → zf_W none 0 0 d zt_60 33 [some (.inr (.inr (1, w0))), some (.inl v1)] [] m (zf_O Q) := by
  intro n
  induction n with
  | zero =>
    intro v1 m h
    exact h.elim
  | succ n ih =>
    intro v1 m h
    unfold wq_60_33 at h
    refine zf_ld (pc' := 34) (v := .inl v1) dX5_restAll_33 rfl (fun _ _ _ => rfl) rfl rfl rfl ?_
    refine zf_ld (pc' := 35) (v := .inr (.inr (1, w0))) dX5_restAll_34 rfl (fun _ _ _ => rfl) rfl rfl rfl ?_
    refine zf_gfr (pc' := 38) (b := y0) dX5_restAll_35 rfl rfl hp0.1 hp0.2.1 rfl ?_
    refine zf_gfi (pc' := 41) dX5_restAll_38 rfl rfl hp0.2.2.1.1 hp0.2.2.1.2.1 rfl ?_
    refine zf_icmp_ge (tgt := 69) (pc' := 44) dX5_restAll_41 rfl rfl (fun g => ?_) (fun g => ?_)
    · replace h := h.1 g
      exact zf_rv dX5_restAll_69 rfl h
    · replace h := h.2 g
      refine zf_ld (pc' := 45) (v := .inr (.inr (1, w0))) dX5_restAll_44 rfl (fun _ _ _ => rfl) rfl rfl rfl ?_
      refine zf_gfr (pc' := 48) (b := r0) dX5_restAll_45 rfl rfl hp0.1 hp0.2.1 rfl ?_
      refine zf_ld (pc' := 49) (v := .inl v1) dX5_restAll_48 rfl (fun _ _ _ => rfl) rfl rfl rfl ?_
      refine zf_ic (v := 0) (pc' := 50) dX5_restAll_49 rfl rfl ?_
      refine zf_ld (pc' := 51) (v := .inr (.inr (1, w0))) dX5_restAll_50 rfl (fun _ _ _ => rfl) rfl rfl rfl ?_
      refine zf_gfr (pc' := 54) (b := r0) dX5_restAll_51 rfl rfl hp0.1 hp0.2.1 rfl ?_
      refine zf_ld (pc' := 55) (v := .inl v1) dX5_restAll_54 rfl (fun _ _ _ => rfl) rfl rfl rfl ?_
      refine zf_ial (pc' := 56) dX5_restAll_55 rfl hp0.2.2.2.1 hp0.2.2.2.2 h.1 rfl ?_
      replace h := h.2
      refine zf_bi (v := 6) (pc' := 58) dX5_restAll_56 rfl rfl ?_
      refine zf_in (pc' := 59) (S' := [.inl ((m.1 r0 (Int32.toInt v1).toNat) - 6), .inl 0, .inl v1, .inr (.inr (1, r0))]) dX5_restAll_58 rfl (fun _ _ _ => rfl) ?_
      refine zf_max (pc' := 62) dX5_restAll_59 rfl rfl rfl ?_
      refine zf_ias (pc' := 63) dX5_restAll_62 rfl hp0.2.2.2.1 hp0.2.2.2.2 h.1 rfl (fun m7 e8 => ?_)
      replace h := h.2 m7 e8
      refine zf_ii (y := (v1 + 1)) (L2 := [some (.inr (.inr (1, w0))), some (.inl (v1 + 1))]) (pc' := 66) dX5_restAll_63 rfl rfl rfl rfl rfl ?_
      refine zf_goto (tgt := 33) dX5_restAll_66 rfl ?_
      exact zf_lo (ih _ _ h) ⟨rfl, rfl, trivial⟩
def wp_60 (w0 : Nat) (y0 : Nat) (r0 : Nat) (m : zf_Me) (Q : zf_Me → Prop) : Prop := (∀ m1, m1 = zf_u m w0 11 ((m.1 w0 11) + 10) → (∀ m3, m3 = zf_u m1 w0 6 0 → (∀ m5, m5 = zf_u m3 w0 4 (if (m3.1 w0 4) < (m3.1 w0 3) then (m3.1 w0 3) else (m3.1 w0 4)) → (∃ n33, wq_60_33 w0 y0 r0 Q n33 0 m5))))
theorem zr_60 {d : Nat} (hd : 0 ≤ d) {w0 : Nat} {y0 : Nat} {r0 : Nat} (hp0 : zf_walk w0 y0 r0) {Q : zf_Me → Prop} {m : zf_Me} (h : wp_60 w0 y0 r0 m Q) : zf_M d 60 [.inr (.inr (1, w0))] m (zf_O Q) := by
  unfold wp_60 at h
  refine zf_M_of (Nat.le_of_ble_eq_true rfl) zm_60 (L := [some (.inr (.inr (1, w0))), none]) rfl ?_
  refine zf_ld (pc' := 1) (v := .inr (.inr (1, w0))) dX5_restAll_0 rfl (fun _ _ _ => rfl) rfl rfl rfl ?_
  refine zf_in (pc' := 2) (S' := [.inr (.inr (1, w0)), .inr (.inr (1, w0))]) dX5_restAll_1 rfl (fun _ _ _ => rfl) ?_
  refine zf_gfi (pc' := 5) dX5_restAll_2 rfl rfl hp0.1 hp0.2.1 rfl ?_
  refine zf_bi (v := 10) (pc' := 7) dX5_restAll_5 rfl rfl ?_
  refine zf_in (pc' := 8) (S' := [.inl ((m.1 w0 11) + 10), .inr (.inr (1, w0))]) dX5_restAll_7 rfl (fun _ _ _ => rfl) ?_
  refine zf_pf (pc' := 11) dX5_restAll_8 rfl rfl hp0.1 hp0.2.1 rfl rfl (fun m1 e2 => ?_)
  replace h := h m1 e2
  refine zf_ld (pc' := 12) (v := .inr (.inr (1, w0))) dX5_restAll_11 rfl (fun _ _ _ => rfl) rfl rfl rfl ?_
  refine zf_ic (v := 0) (pc' := 13) dX5_restAll_12 rfl rfl ?_
  refine zf_pf (pc' := 16) dX5_restAll_13 rfl rfl hp0.1 hp0.2.1 rfl rfl (fun m3 e4 => ?_)
  replace h := h m3 e4
  refine zf_ld (pc' := 17) (v := .inr (.inr (1, w0))) dX5_restAll_16 rfl (fun _ _ _ => rfl) rfl rfl rfl ?_
  refine zf_ld (pc' := 18) (v := .inr (.inr (1, w0))) dX5_restAll_17 rfl (fun _ _ _ => rfl) rfl rfl rfl ?_
  refine zf_gfi (pc' := 21) dX5_restAll_18 rfl rfl hp0.1 hp0.2.1 rfl ?_
  refine zf_ld (pc' := 22) (v := .inr (.inr (1, w0))) dX5_restAll_21 rfl (fun _ _ _ => rfl) rfl rfl rfl ?_
  refine zf_gfi (pc' := 25) dX5_restAll_22 rfl rfl hp0.1 hp0.2.1 rfl ?_
  refine zf_max (pc' := 28) dX5_restAll_25 rfl rfl rfl ?_
  refine zf_pf (pc' := 31) dX5_restAll_28 rfl rfl hp0.1 hp0.2.1 rfl rfl (fun m5 e6 => ?_)
  replace h := h m5 e6
  refine zf_ic (v := 0) (pc' := 32) dX5_restAll_31 rfl rfl ?_
  refine zf_st (pc' := 33) (L2 := [some (.inr (.inr (1, w0))), some (.inl 0)]) dX5_restAll_32 rfl (fun _ _ _ => rfl) rfl rfl rfl rfl rfl rfl ?_
  obtain ⟨n33, h⟩ := h
  exact zf_lo (zq_60_33 (by omega) hp0 n33 _ _ h) ⟨rfl, rfl, trivial⟩
def zt_58 : zx_MT := (5, yX5_carry, cX5_carry, 3, none, 1, 0)
theorem zm_58 : zx_m 58 = zt_58 := rfl
theorem dX5_carry_r0 : zdcP cX5_carry 0 [(.aload_n 0, 1), (.getfield 49, 3), (.getfield 102, 3), (.aload_n 0, 1), (.getfield 40, 3), (.iaload, 1), (.istore_n 2, 1), (.aload_n 0, 1), (.getfield 9, 3), (.iload_n 1, 1), (.dup2, 1), (.iaload, 1), (.aload_n 0, 1), (.iload_n 1, 1), (.iload_n 2, 1), (.invokevirtual 108, 3)] := zdcA_ok (by decide +kernel)
theorem dX5_carry_0 : decode cX5_carry 0 = .ok (.aload_n 0, 1) := dX5_carry_r0.1
theorem dX5_carry_1 : decode cX5_carry 1 = .ok (.getfield 49, 3) := dX5_carry_r0.2.1
theorem dX5_carry_4 : decode cX5_carry 4 = .ok (.getfield 102, 3) := dX5_carry_r0.2.2.1
theorem dX5_carry_7 : decode cX5_carry 7 = .ok (.aload_n 0, 1) := dX5_carry_r0.2.2.2.1
theorem dX5_carry_8 : decode cX5_carry 8 = .ok (.getfield 40, 3) := dX5_carry_r0.2.2.2.2.1
theorem dX5_carry_11 : decode cX5_carry 11 = .ok (.iaload, 1) := dX5_carry_r0.2.2.2.2.2.1
theorem dX5_carry_12 : decode cX5_carry 12 = .ok (.istore_n 2, 1) := dX5_carry_r0.2.2.2.2.2.2.1
theorem dX5_carry_13 : decode cX5_carry 13 = .ok (.aload_n 0, 1) := dX5_carry_r0.2.2.2.2.2.2.2.1
theorem dX5_carry_14 : decode cX5_carry 14 = .ok (.getfield 9, 3) := dX5_carry_r0.2.2.2.2.2.2.2.2.1
theorem dX5_carry_17 : decode cX5_carry 17 = .ok (.iload_n 1, 1) := dX5_carry_r0.2.2.2.2.2.2.2.2.2.1
theorem dX5_carry_18 : decode cX5_carry 18 = .ok (.dup2, 1) := dX5_carry_r0.2.2.2.2.2.2.2.2.2.2.1
theorem dX5_carry_19 : decode cX5_carry 19 = .ok (.iaload, 1) := dX5_carry_r0.2.2.2.2.2.2.2.2.2.2.2.1
theorem dX5_carry_20 : decode cX5_carry 20 = .ok (.aload_n 0, 1) := dX5_carry_r0.2.2.2.2.2.2.2.2.2.2.2.2.1
theorem dX5_carry_21 : decode cX5_carry 21 = .ok (.iload_n 1, 1) := dX5_carry_r0.2.2.2.2.2.2.2.2.2.2.2.2.2.1
theorem dX5_carry_22 : decode cX5_carry 22 = .ok (.iload_n 2, 1) := dX5_carry_r0.2.2.2.2.2.2.2.2.2.2.2.2.2.2.1
theorem dX5_carry_23 : decode cX5_carry 23 = .ok (.invokevirtual 108, 3) := dX5_carry_r0.2.2.2.2.2.2.2.2.2.2.2.2.2.2.2.1
theorem dX5_carry_r26 : zdcP cX5_carry 26 [(.iadd, 1), (.iastore, 1), (.aload_n 0, 1), (.dup, 1), (.getfield 28, 3), (.iconst 1, 1), (.iadd, 1), (.putfield 28, 3), (.aload_n 0, 1), (.getfield 28, 3), (.iconst 2, 1), (.irem, 1), (.ifCond .ne 24, 3), (.aload_n 0, 1), (.getfield 22, 3), (.aload_n 0, 1)] := zdcA_ok (by decide +kernel)
theorem dX5_carry_26 : decode cX5_carry 26 = .ok (.iadd, 1) := dX5_carry_r26.1
theorem dX5_carry_27 : decode cX5_carry 27 = .ok (.iastore, 1) := dX5_carry_r26.2.1
theorem dX5_carry_28 : decode cX5_carry 28 = .ok (.aload_n 0, 1) := dX5_carry_r26.2.2.1
theorem dX5_carry_29 : decode cX5_carry 29 = .ok (.dup, 1) := dX5_carry_r26.2.2.2.1
theorem dX5_carry_30 : decode cX5_carry 30 = .ok (.getfield 28, 3) := dX5_carry_r26.2.2.2.2.1
theorem dX5_carry_33 : decode cX5_carry 33 = .ok (.iconst 1, 1) := dX5_carry_r26.2.2.2.2.2.1
theorem dX5_carry_34 : decode cX5_carry 34 = .ok (.iadd, 1) := dX5_carry_r26.2.2.2.2.2.2.1
theorem dX5_carry_35 : decode cX5_carry 35 = .ok (.putfield 28, 3) := dX5_carry_r26.2.2.2.2.2.2.2.1
theorem dX5_carry_38 : decode cX5_carry 38 = .ok (.aload_n 0, 1) := dX5_carry_r26.2.2.2.2.2.2.2.2.1
theorem dX5_carry_39 : decode cX5_carry 39 = .ok (.getfield 28, 3) := dX5_carry_r26.2.2.2.2.2.2.2.2.2.1
theorem dX5_carry_42 : decode cX5_carry 42 = .ok (.iconst 2, 1) := dX5_carry_r26.2.2.2.2.2.2.2.2.2.2.1
theorem dX5_carry_43 : decode cX5_carry 43 = .ok (.irem, 1) := dX5_carry_r26.2.2.2.2.2.2.2.2.2.2.2.1
theorem dX5_carry_44 : decode cX5_carry 44 = .ok (.ifCond .ne 24, 3) := dX5_carry_r26.2.2.2.2.2.2.2.2.2.2.2.2.1
theorem dX5_carry_47 : decode cX5_carry 47 = .ok (.aload_n 0, 1) := dX5_carry_r26.2.2.2.2.2.2.2.2.2.2.2.2.2.1
theorem dX5_carry_48 : decode cX5_carry 48 = .ok (.getfield 22, 3) := dX5_carry_r26.2.2.2.2.2.2.2.2.2.2.2.2.2.2.1
theorem dX5_carry_51 : decode cX5_carry 51 = .ok (.aload_n 0, 1) := dX5_carry_r26.2.2.2.2.2.2.2.2.2.2.2.2.2.2.2.1
theorem dX5_carry_r52 : zdcP cX5_carry 52 [(.getfield 19, 3), (.if_icmp .ge 13, 3), (.aload_n 0, 1), (.dup, 1), (.getfield 22, 3), (.iconst 1, 1), (.iadd, 1), (.putfield 22, 3), (.aload_n 0, 1), (.dup, 1), (.getfield 43, 3), (.iconst 3, 1), (.bipush 6, 2), (.iload_n 2, 1), (.iadd, 1), (.aload_n 0, 1)] := zdcA_ok (by decide +kernel)
theorem dX5_carry_52 : decode cX5_carry 52 = .ok (.getfield 19, 3) := dX5_carry_r52.1
theorem dX5_carry_55 : decode cX5_carry 55 = .ok (.if_icmp .ge 13, 3) := dX5_carry_r52.2.1
theorem dX5_carry_58 : decode cX5_carry 58 = .ok (.aload_n 0, 1) := dX5_carry_r52.2.2.1
theorem dX5_carry_59 : decode cX5_carry 59 = .ok (.dup, 1) := dX5_carry_r52.2.2.2.1
theorem dX5_carry_60 : decode cX5_carry 60 = .ok (.getfield 22, 3) := dX5_carry_r52.2.2.2.2.1
theorem dX5_carry_63 : decode cX5_carry 63 = .ok (.iconst 1, 1) := dX5_carry_r52.2.2.2.2.2.1
theorem dX5_carry_64 : decode cX5_carry 64 = .ok (.iadd, 1) := dX5_carry_r52.2.2.2.2.2.2.1
theorem dX5_carry_65 : decode cX5_carry 65 = .ok (.putfield 22, 3) := dX5_carry_r52.2.2.2.2.2.2.2.1
theorem dX5_carry_68 : decode cX5_carry 68 = .ok (.aload_n 0, 1) := dX5_carry_r52.2.2.2.2.2.2.2.2.1
theorem dX5_carry_69 : decode cX5_carry 69 = .ok (.dup, 1) := dX5_carry_r52.2.2.2.2.2.2.2.2.2.1
theorem dX5_carry_70 : decode cX5_carry 70 = .ok (.getfield 43, 3) := dX5_carry_r52.2.2.2.2.2.2.2.2.2.2.1
theorem dX5_carry_73 : decode cX5_carry 73 = .ok (.iconst 3, 1) := dX5_carry_r52.2.2.2.2.2.2.2.2.2.2.2.1
theorem dX5_carry_74 : decode cX5_carry 74 = .ok (.bipush 6, 2) := dX5_carry_r52.2.2.2.2.2.2.2.2.2.2.2.2.1
theorem dX5_carry_76 : decode cX5_carry 76 = .ok (.iload_n 2, 1) := dX5_carry_r52.2.2.2.2.2.2.2.2.2.2.2.2.2.1
theorem dX5_carry_77 : decode cX5_carry 77 = .ok (.iadd, 1) := dX5_carry_r52.2.2.2.2.2.2.2.2.2.2.2.2.2.2.1
theorem dX5_carry_78 : decode cX5_carry 78 = .ok (.aload_n 0, 1) := dX5_carry_r52.2.2.2.2.2.2.2.2.2.2.2.2.2.2.2.1
theorem dX5_carry_r79 : zdcP cX5_carry 79 [(.getfield 28, 3), (.iconst 1, 1), (.if_icmp .ne 7, 3), (.iconst 1, 1), (.goto 4, 3), (.iconst 0, 1), (.iadd, 1), (.invokestatic 79, 3), (.iadd, 1), (.putfield 43, 3), (.aload_n 0, 1), (.iload_n 1, 1), (.invokevirtual 124, 3), (.aload_n 0, 1), (.dup, 1), (.getfield 40, 3)] := zdcA_ok (by decide +kernel)
theorem dX5_carry_79 : decode cX5_carry 79 = .ok (.getfield 28, 3) := dX5_carry_r79.1
theorem dX5_carry_82 : decode cX5_carry 82 = .ok (.iconst 1, 1) := dX5_carry_r79.2.1
theorem dX5_carry_83 : decode cX5_carry 83 = .ok (.if_icmp .ne 7, 3) := dX5_carry_r79.2.2.1
theorem dX5_carry_86 : decode cX5_carry 86 = .ok (.iconst 1, 1) := dX5_carry_r79.2.2.2.1
theorem dX5_carry_87 : decode cX5_carry 87 = .ok (.goto 4, 3) := dX5_carry_r79.2.2.2.2.1
theorem dX5_carry_90 : decode cX5_carry 90 = .ok (.iconst 0, 1) := dX5_carry_r79.2.2.2.2.2.1
theorem dX5_carry_91 : decode cX5_carry 91 = .ok (.iadd, 1) := dX5_carry_r79.2.2.2.2.2.2.1
theorem dX5_carry_92 : decode cX5_carry 92 = .ok (.invokestatic 79, 3) := dX5_carry_r79.2.2.2.2.2.2.2.1
theorem dX5_carry_95 : decode cX5_carry 95 = .ok (.iadd, 1) := dX5_carry_r79.2.2.2.2.2.2.2.2.1
theorem dX5_carry_96 : decode cX5_carry 96 = .ok (.putfield 43, 3) := dX5_carry_r79.2.2.2.2.2.2.2.2.2.1
theorem dX5_carry_99 : decode cX5_carry 99 = .ok (.aload_n 0, 1) := dX5_carry_r79.2.2.2.2.2.2.2.2.2.2.1
theorem dX5_carry_100 : decode cX5_carry 100 = .ok (.iload_n 1, 1) := dX5_carry_r79.2.2.2.2.2.2.2.2.2.2.2.1
theorem dX5_carry_101 : decode cX5_carry 101 = .ok (.invokevirtual 124, 3) := dX5_carry_r79.2.2.2.2.2.2.2.2.2.2.2.2.1
theorem dX5_carry_104 : decode cX5_carry 104 = .ok (.aload_n 0, 1) := dX5_carry_r79.2.2.2.2.2.2.2.2.2.2.2.2.2.1
theorem dX5_carry_105 : decode cX5_carry 105 = .ok (.dup, 1) := dX5_carry_r79.2.2.2.2.2.2.2.2.2.2.2.2.2.2.1
theorem dX5_carry_106 : decode cX5_carry 106 = .ok (.getfield 40, 3) := dX5_carry_r79.2.2.2.2.2.2.2.2.2.2.2.2.2.2.2.1
theorem dX5_carry_r109 : zdcP cX5_carry 109 [(.iconst 1, 1), (.iadd, 1), (.putfield 40, 3), (.return_, 1)] := zdcA_ok (by decide +kernel)
theorem dX5_carry_109 : decode cX5_carry 109 = .ok (.iconst 1, 1) := dX5_carry_r109.1
theorem dX5_carry_110 : decode cX5_carry 110 = .ok (.iadd, 1) := dX5_carry_r109.2.1
theorem dX5_carry_111 : decode cX5_carry 111 = .ok (.putfield 40, 3) := dX5_carry_r109.2.2.1
theorem dX5_carry_114 : decode cX5_carry 114 = .ok (.return_, 1) := dX5_carry_r109.2.2.2.1
def wq_58_91 (w0 : Nat) (y0 : Nat) (r0 : Nat) (v1 : Int32) (u0 : Int32) (u1 : Int32) (u2 : Int32) (u3 : Int32) (m : zf_Me) (Q : zf_Me → Prop) : Prop := (∀ m7, m7 = zf_u m w0 11 (u3 + (if u2 < (u1 + u0) then (u1 + u0) else u2)) → wp_59 w0 y0 r0 v1 m7 (fun m10 => (∀ m11, m11 = zf_u m10 w0 10 ((m10.1 w0 10) + 1) → Q m11)))
theorem zq_58_91 {d : Nat} (hd : 2 ≤ d) {w0 : Nat} {y0 : Nat} {r0 : Nat} (hp0 : zf_walk w0 y0 r0) {v1 : Int32} {Q : zf_Me → Prop} {u0 : Int32} {u1 : Int32} {u2 : Int32} {u3 : Int32} {m : zf_Me} (h : wq_58_91 w0 y0 r0 v1 u0 u1 u2 u3 m Q) : zf_W none 0 0 d zt_58 91 [some (.inr (.inr (1, w0))), some (.inl v1), none] [.inl u0, .inl u1, .inl u2, .inl u3, .inr (.inr (1, w0))] m (zf_O Q) := by
  obtain ⟨e, rfl⟩ : ∃ z, d = z + 1 := ⟨d - 1, by omega⟩
  unfold wq_58_91 at h
  refine zf_in (pc' := 92) (S' := [.inl (u1 + u0), .inl u2, .inl u3, .inr (.inr (1, w0))]) dX5_carry_91 rfl (fun _ _ _ => rfl) ?_
  refine zf_max (pc' := 95) dX5_carry_92 rfl rfl rfl ?_
  refine zf_in (pc' := 96) (S' := [.inl (u3 + (if u2 < (u1 + u0) then (u1 + u0) else u2)), .inr (.inr (1, w0))]) dX5_carry_95 rfl (fun _ _ _ => rfl) ?_
  refine zf_pf (pc' := 99) dX5_carry_96 rfl rfl hp0.1 hp0.2.1 rfl rfl (fun m7 e8 => ?_)
  replace h := h m7 e8
  refine zf_ld (pc' := 100) (v := .inr (.inr (1, w0))) dX5_carry_99 rfl (fun _ _ _ => rfl) rfl rfl rfl ?_
  refine zf_ld (pc' := 101) (v := .inl v1) dX5_carry_100 rfl (fun _ _ _ => rfl) rfl rfl rfl ?_
  refine zf_iv (k := 59) (pc' := 104) (r := []) dX5_carry_101 rfl rfl rfl rfl hp0.1 hp0.2.1 rfl rfl (zr_59 (by omega) hp0 h) (zf_kO (fun m10 h => ?_))
  refine zf_ld (pc' := 105) (v := .inr (.inr (1, w0))) dX5_carry_104 rfl (fun _ _ _ => rfl) rfl rfl rfl ?_
  refine zf_in (pc' := 106) (S' := [.inr (.inr (1, w0)), .inr (.inr (1, w0))]) dX5_carry_105 rfl (fun _ _ _ => rfl) ?_
  refine zf_gfi (pc' := 109) dX5_carry_106 rfl rfl hp0.1 hp0.2.1 rfl ?_
  refine zf_ic (v := 1) (pc' := 110) dX5_carry_109 rfl rfl ?_
  refine zf_in (pc' := 111) (S' := [.inl ((m10.1 w0 10) + 1), .inr (.inr (1, w0))]) dX5_carry_110 rfl (fun _ _ _ => rfl) ?_
  refine zf_pf (pc' := 114) dX5_carry_111 rfl rfl hp0.1 hp0.2.1 rfl rfl (fun m11 e12 => ?_)
  replace h := h m11 e12
  exact zf_rv dX5_carry_114 rfl h
def wq_58_68 (w0 : Nat) (y0 : Nat) (r0 : Nat) (v1 : Int32) (v2 : Int32) (m : zf_Me) (Q : zf_Me → Prop) : Prop := ((¬ ((m.1 w0 6)).toInt = 1 → wq_58_91 w0 y0 r0 v1 0 (6 + v2) 3 (m.1 w0 11) m Q) ∧ (((m.1 w0 6)).toInt = 1 → wq_58_91 w0 y0 r0 v1 1 (6 + v2) 3 (m.1 w0 11) m Q))
theorem zq_58_68 {d : Nat} (hd : 2 ≤ d) {w0 : Nat} {y0 : Nat} {r0 : Nat} (hp0 : zf_walk w0 y0 r0) {v1 : Int32} {Q : zf_Me → Prop} {v2 : Int32} {m : zf_Me} (h : wq_58_68 w0 y0 r0 v1 v2 m Q) : zf_W none 0 0 d zt_58 68 [some (.inr (.inr (1, w0))), some (.inl v1), some (.inl v2)] [] m (zf_O Q) := by
  unfold wq_58_68 at h
  refine zf_ld (pc' := 69) (v := .inr (.inr (1, w0))) dX5_carry_68 rfl (fun _ _ _ => rfl) rfl rfl rfl ?_
  refine zf_in (pc' := 70) (S' := [.inr (.inr (1, w0)), .inr (.inr (1, w0))]) dX5_carry_69 rfl (fun _ _ _ => rfl) ?_
  refine zf_gfi (pc' := 73) dX5_carry_70 rfl rfl hp0.1 hp0.2.1 rfl ?_
  refine zf_ic (v := 3) (pc' := 74) dX5_carry_73 rfl rfl ?_
  refine zf_bi (v := 6) (pc' := 76) dX5_carry_74 rfl rfl ?_
  refine zf_ld (pc' := 77) (v := .inl v2) dX5_carry_76 rfl (fun _ _ _ => rfl) rfl rfl rfl ?_
  refine zf_in (pc' := 78) (S' := [.inl (6 + v2), .inl 3, .inl (m.1 w0 11), .inr (.inr (1, w0))]) dX5_carry_77 rfl (fun _ _ _ => rfl) ?_
  refine zf_ld (pc' := 79) (v := .inr (.inr (1, w0))) dX5_carry_78 rfl (fun _ _ _ => rfl) rfl rfl rfl ?_
  refine zf_gfi (pc' := 82) dX5_carry_79 rfl rfl hp0.1 hp0.2.1 rfl ?_
  refine zf_ic (v := 1) (pc' := 83) dX5_carry_82 rfl rfl ?_
  refine zf_icmp_ne (tgt := 90) (pc' := 86) dX5_carry_83 rfl rfl (fun g => ?_) (fun g => ?_)
  · replace h := h.1 g
    refine zf_ic (v := 0) (pc' := 91) dX5_carry_90 rfl rfl ?_
    exact zf_lo (zq_58_91 (by omega) hp0 h) ⟨rfl, rfl, trivial⟩
  · replace h := h.2 g
    refine zf_ic (v := 1) (pc' := 87) dX5_carry_86 rfl rfl ?_
    refine zf_goto (tgt := 91) dX5_carry_87 rfl ?_
    exact zf_lo (zq_58_91 (by omega) hp0 h) ⟨rfl, rfl, trivial⟩
def wp_58 (w0 : Nat) (y0 : Nat) (r0 : Nat) (v1 : Int32) (m : zf_Me) (Q : zf_Me → Prop) : Prop := ((0 ≤ (Int32.toInt (m.1 w0 10)) ∧ (Int32.toInt (m.1 w0 10)) < (24 : Int)) ∧ ((0 ≤ (Int32.toInt v1) ∧ (Int32.toInt v1) < (6 : Int)) ∧ wp_51 w0 y0 r0 v1 (m.1 (y0 + 1) (Int32.toInt (m.1 w0 10)).toNat) m (fun x1 m2 => ((0 ≤ (Int32.toInt v1) ∧ (Int32.toInt v1) < (6 : Int)) ∧ ∀ m3, m3 = zf_u m2 r0 (Int32.toInt v1).toNat ((m.1 r0 (Int32.toInt v1).toNat) + x1) → (∀ m5, m5 = zf_u m3 w0 6 ((m3.1 w0 6) + 1) → ((¬ (((m5.1 w0 6) - (m5.1 w0 6) / 2 * 2)).toInt = 0 → wq_58_68 w0 y0 r0 v1 (m.1 (y0 + 1) (Int32.toInt (m.1 w0 10)).toNat) m5 Q) ∧ ((((m5.1 w0 6) - (m5.1 w0 6) / 2 * 2)).toInt = 0 → ((((m5.1 w0 4)).toInt ≥ ((m5.1 w0 3)).toInt → wq_58_68 w0 y0 r0 v1 (m.1 (y0 + 1) (Int32.toInt (m.1 w0 10)).toNat) m5 Q) ∧ (((m5.1 w0 4)).toInt < ((m5.1 w0 3)).toInt → (∀ m13, m13 = zf_u m5 w0 4 ((m5.1 w0 4) + 1) → wq_58_68 w0 y0 r0 v1 (m.1 (y0 + 1) (Int32.toInt (m.1 w0 10)).toNat) m13 Q))))))))))
theorem zr_58 {d : Nat} (hd : 2 ≤ d) {w0 : Nat} {y0 : Nat} {r0 : Nat} (hp0 : zf_walk w0 y0 r0) {v1 : Int32} {Q : zf_Me → Prop} {m : zf_Me} (h : wp_58 w0 y0 r0 v1 m Q) : zf_M d 58 [.inr (.inr (1, w0)), .inl v1] m (zf_O Q) := by
  obtain ⟨e, rfl⟩ : ∃ z, d = z + 1 := ⟨d - 1, by omega⟩
  unfold wp_58 at h
  refine zf_M_of (Nat.le_of_ble_eq_true rfl) zm_58 (L := [some (.inr (.inr (1, w0))), some (.inl v1), none]) rfl ?_
  refine zf_ld (pc' := 1) (v := .inr (.inr (1, w0))) dX5_carry_0 rfl (fun _ _ _ => rfl) rfl rfl rfl ?_
  refine zf_gfr (pc' := 4) (b := y0) dX5_carry_1 rfl rfl hp0.1 hp0.2.1 rfl ?_
  refine zf_gfr (pc' := 7) (b := (y0 + 1)) dX5_carry_4 rfl rfl hp0.2.2.1.1 hp0.2.2.1.2.1 rfl ?_
  refine zf_ld (pc' := 8) (v := .inr (.inr (1, w0))) dX5_carry_7 rfl (fun _ _ _ => rfl) rfl rfl rfl ?_
  refine zf_gfi (pc' := 11) dX5_carry_8 rfl rfl hp0.1 hp0.2.1 rfl ?_
  refine zf_ial (pc' := 12) dX5_carry_11 rfl hp0.2.2.1.2.2.1.1 hp0.2.2.1.2.2.1.2 h.1 rfl ?_
  replace h := h.2
  refine zf_st (pc' := 13) (L2 := [some (.inr (.inr (1, w0))), some (.inl v1), some (.inl (m.1 (y0 + 1) (Int32.toInt (m.1 w0 10)).toNat))]) dX5_carry_12 rfl (fun _ _ _ => rfl) rfl rfl rfl rfl rfl rfl ?_
  refine zf_ld (pc' := 14) (v := .inr (.inr (1, w0))) dX5_carry_13 rfl (fun _ _ _ => rfl) rfl rfl rfl ?_
  refine zf_gfr (pc' := 17) (b := r0) dX5_carry_14 rfl rfl hp0.1 hp0.2.1 rfl ?_
  refine zf_ld (pc' := 18) (v := .inl v1) dX5_carry_17 rfl (fun _ _ _ => rfl) rfl rfl rfl ?_
  refine zf_in (pc' := 19) (S' := [.inl v1, .inr (.inr (1, r0)), .inl v1, .inr (.inr (1, r0))]) dX5_carry_18 rfl (fun _ _ _ => rfl) ?_
  refine zf_ial (pc' := 20) dX5_carry_19 rfl hp0.2.2.2.1 hp0.2.2.2.2 h.1 rfl ?_
  replace h := h.2
  refine zf_ld (pc' := 21) (v := .inr (.inr (1, w0))) dX5_carry_20 rfl (fun _ _ _ => rfl) rfl rfl rfl ?_
  refine zf_ld (pc' := 22) (v := .inl v1) dX5_carry_21 rfl (fun _ _ _ => rfl) rfl rfl rfl ?_
  refine zf_ld (pc' := 23) (v := .inl (m.1 (y0 + 1) (Int32.toInt (m.1 w0 10)).toNat)) dX5_carry_22 rfl (fun _ _ _ => rfl) rfl rfl rfl ?_
  refine zf_iv (k := 51) (pc' := 26) (r := [.inl (m.1 r0 (Int32.toInt v1).toNat), .inl v1, .inr (.inr (1, r0))]) dX5_carry_23 rfl rfl rfl rfl hp0.1 hp0.2.1 rfl rfl (zr_51 (by omega) hp0 h) (zf_kI (fun x1 m2 h => ?_))
  refine zf_in (pc' := 27) (S' := [.inl ((m.1 r0 (Int32.toInt v1).toNat) + x1), .inl v1, .inr (.inr (1, r0))]) dX5_carry_26 rfl (fun _ _ _ => rfl) ?_
  refine zf_ias (pc' := 28) dX5_carry_27 rfl hp0.2.2.2.1 hp0.2.2.2.2 h.1 rfl (fun m3 e4 => ?_)
  replace h := h.2 m3 e4
  refine zf_ld (pc' := 29) (v := .inr (.inr (1, w0))) dX5_carry_28 rfl (fun _ _ _ => rfl) rfl rfl rfl ?_
  refine zf_in (pc' := 30) (S' := [.inr (.inr (1, w0)), .inr (.inr (1, w0))]) dX5_carry_29 rfl (fun _ _ _ => rfl) ?_
  refine zf_gfi (pc' := 33) dX5_carry_30 rfl rfl hp0.1 hp0.2.1 rfl ?_
  refine zf_ic (v := 1) (pc' := 34) dX5_carry_33 rfl rfl ?_
  refine zf_in (pc' := 35) (S' := [.inl ((m3.1 w0 6) + 1), .inr (.inr (1, w0))]) dX5_carry_34 rfl (fun _ _ _ => rfl) ?_
  refine zf_pf (pc' := 38) dX5_carry_35 rfl rfl hp0.1 hp0.2.1 rfl rfl (fun m5 e6 => ?_)
  replace h := h m5 e6
  refine zf_ld (pc' := 39) (v := .inr (.inr (1, w0))) dX5_carry_38 rfl (fun _ _ _ => rfl) rfl rfl rfl ?_
  refine zf_gfi (pc' := 42) dX5_carry_39 rfl rfl hp0.1 hp0.2.1 rfl ?_
  refine zf_ic (v := 2) (pc' := 43) dX5_carry_42 rfl rfl ?_
  refine zf_rem (pc' := 44) dX5_carry_43 rfl (by decide) ?_
  refine zf_if_ne (tgt := 68) (pc' := 47) dX5_carry_44 rfl rfl (fun g => ?_) (fun g => ?_)
  · replace h := h.1 g
    exact zf_lo (zq_58_68 (by omega) hp0 h) ⟨rfl, rfl, rfl, trivial⟩
  · replace h := h.2 g
    refine zf_ld (pc' := 48) (v := .inr (.inr (1, w0))) dX5_carry_47 rfl (fun _ _ _ => rfl) rfl rfl rfl ?_
    refine zf_gfi (pc' := 51) dX5_carry_48 rfl rfl hp0.1 hp0.2.1 rfl ?_
    refine zf_ld (pc' := 52) (v := .inr (.inr (1, w0))) dX5_carry_51 rfl (fun _ _ _ => rfl) rfl rfl rfl ?_
    refine zf_gfi (pc' := 55) dX5_carry_52 rfl rfl hp0.1 hp0.2.1 rfl ?_
    refine zf_icmp_ge (tgt := 68) (pc' := 58) dX5_carry_55 rfl rfl (fun g => ?_) (fun g => ?_)
    · replace h := h.1 g
      exact zf_lo (zq_58_68 (by omega) hp0 h) ⟨rfl, rfl, rfl, trivial⟩
    · replace h := h.2 g
      refine zf_ld (pc' := 59) (v := .inr (.inr (1, w0))) dX5_carry_58 rfl (fun _ _ _ => rfl) rfl rfl rfl ?_
      refine zf_in (pc' := 60) (S' := [.inr (.inr (1, w0)), .inr (.inr (1, w0))]) dX5_carry_59 rfl (fun _ _ _ => rfl) ?_
      refine zf_gfi (pc' := 63) dX5_carry_60 rfl rfl hp0.1 hp0.2.1 rfl ?_
      refine zf_ic (v := 1) (pc' := 64) dX5_carry_63 rfl rfl ?_
      refine zf_in (pc' := 65) (S' := [.inl ((m5.1 w0 4) + 1), .inr (.inr (1, w0))]) dX5_carry_64 rfl (fun _ _ _ => rfl) ?_
      refine zf_pf (pc' := 68) dX5_carry_65 rfl rfl hp0.1 hp0.2.1 rfl rfl (fun m13 e14 => ?_)
      replace h := h m13 e14
      exact zf_lo (zq_58_68 (by omega) hp0 h) ⟨rfl, rfl, rfl, trivial⟩
def zt_56 : zx_MT := (5, yX5_come, cX5_come, 2, none, 1, 0)
theorem zm_56 : zx_m 56 = zt_56 := rfl
theorem dX5_come_0 : decode cX5_come 0 = .ok (.iload_n 1, 1) := zdc_ok (by decide +kernel)
theorem dX5_come_1 : decode cX5_come 1 = .ok (.tableswitch 117 6 9 #[31, 38, 74, 110], 31) := by decide +kernel
theorem dX5_come_r32 : zdcP cX5_come 32 [(.aload_n 0, 1), (.invokevirtual 114, 3), (.goto 87, 3), (.aload_n 0, 1), (.dup, 1), (.getfield 31, 3), (.iconst 1, 1), (.isub, 1), (.putfield 31, 3), (.aload_n 0, 1), (.aload_n 0, 1), (.getfield 22, 3), (.iconst 2, 1), (.iadd, 1), (.aload_n 0, 1), (.getfield 19, 3)] := zdcA_ok (by decide +kernel)
theorem dX5_come_32 : decode cX5_come 32 = .ok (.aload_n 0, 1) := dX5_come_r32.1
theorem dX5_come_33 : decode cX5_come 33 = .ok (.invokevirtual 114, 3) := dX5_come_r32.2.1
theorem dX5_come_36 : decode cX5_come 36 = .ok (.goto 87, 3) := dX5_come_r32.2.2.1
theorem dX5_come_39 : decode cX5_come 39 = .ok (.aload_n 0, 1) := dX5_come_r32.2.2.2.1
theorem dX5_come_40 : decode cX5_come 40 = .ok (.dup, 1) := dX5_come_r32.2.2.2.2.1
theorem dX5_come_41 : decode cX5_come 41 = .ok (.getfield 31, 3) := dX5_come_r32.2.2.2.2.2.1
theorem dX5_come_44 : decode cX5_come 44 = .ok (.iconst 1, 1) := dX5_come_r32.2.2.2.2.2.2.1
theorem dX5_come_45 : decode cX5_come 45 = .ok (.isub, 1) := dX5_come_r32.2.2.2.2.2.2.2.1
theorem dX5_come_46 : decode cX5_come 46 = .ok (.putfield 31, 3) := dX5_come_r32.2.2.2.2.2.2.2.2.1
theorem dX5_come_49 : decode cX5_come 49 = .ok (.aload_n 0, 1) := dX5_come_r32.2.2.2.2.2.2.2.2.2.1
theorem dX5_come_50 : decode cX5_come 50 = .ok (.aload_n 0, 1) := dX5_come_r32.2.2.2.2.2.2.2.2.2.2.1
theorem dX5_come_51 : decode cX5_come 51 = .ok (.getfield 22, 3) := dX5_come_r32.2.2.2.2.2.2.2.2.2.2.2.1
theorem dX5_come_54 : decode cX5_come 54 = .ok (.iconst 2, 1) := dX5_come_r32.2.2.2.2.2.2.2.2.2.2.2.2.1
theorem dX5_come_55 : decode cX5_come 55 = .ok (.iadd, 1) := dX5_come_r32.2.2.2.2.2.2.2.2.2.2.2.2.2.1
theorem dX5_come_56 : decode cX5_come 56 = .ok (.aload_n 0, 1) := dX5_come_r32.2.2.2.2.2.2.2.2.2.2.2.2.2.2.1
theorem dX5_come_57 : decode cX5_come 57 = .ok (.getfield 19, 3) := dX5_come_r32.2.2.2.2.2.2.2.2.2.2.2.2.2.2.2.1
theorem dX5_come_r60 : zdcP cX5_come 60 [(.iconst 2, 1), (.iadd, 1), (.invokestatic 70, 3), (.putfield 22, 3), (.aload_n 0, 1), (.invokevirtual 114, 3), (.goto 51, 3), (.aload_n 0, 1), (.dup, 1), (.getfield 34, 3), (.iconst 1, 1), (.isub, 1), (.putfield 34, 3), (.aload_n 0, 1), (.aload_n 0, 1), (.getfield 22, 3)] := zdcA_ok (by decide +kernel)
theorem dX5_come_60 : decode cX5_come 60 = .ok (.iconst 2, 1) := dX5_come_r60.1
theorem dX5_come_61 : decode cX5_come 61 = .ok (.iadd, 1) := dX5_come_r60.2.1
theorem dX5_come_62 : decode cX5_come 62 = .ok (.invokestatic 70, 3) := dX5_come_r60.2.2.1
theorem dX5_come_65 : decode cX5_come 65 = .ok (.putfield 22, 3) := dX5_come_r60.2.2.2.1
theorem dX5_come_68 : decode cX5_come 68 = .ok (.aload_n 0, 1) := dX5_come_r60.2.2.2.2.1
theorem dX5_come_69 : decode cX5_come 69 = .ok (.invokevirtual 114, 3) := dX5_come_r60.2.2.2.2.2.1
theorem dX5_come_72 : decode cX5_come 72 = .ok (.goto 51, 3) := dX5_come_r60.2.2.2.2.2.2.1
theorem dX5_come_75 : decode cX5_come 75 = .ok (.aload_n 0, 1) := dX5_come_r60.2.2.2.2.2.2.2.1
theorem dX5_come_76 : decode cX5_come 76 = .ok (.dup, 1) := dX5_come_r60.2.2.2.2.2.2.2.2.1
theorem dX5_come_77 : decode cX5_come 77 = .ok (.getfield 34, 3) := dX5_come_r60.2.2.2.2.2.2.2.2.2.1
theorem dX5_come_80 : decode cX5_come 80 = .ok (.iconst 1, 1) := dX5_come_r60.2.2.2.2.2.2.2.2.2.2.1
theorem dX5_come_81 : decode cX5_come 81 = .ok (.isub, 1) := dX5_come_r60.2.2.2.2.2.2.2.2.2.2.2.1
theorem dX5_come_82 : decode cX5_come 82 = .ok (.putfield 34, 3) := dX5_come_r60.2.2.2.2.2.2.2.2.2.2.2.2.1
theorem dX5_come_85 : decode cX5_come 85 = .ok (.aload_n 0, 1) := dX5_come_r60.2.2.2.2.2.2.2.2.2.2.2.2.2.1
theorem dX5_come_86 : decode cX5_come 86 = .ok (.aload_n 0, 1) := dX5_come_r60.2.2.2.2.2.2.2.2.2.2.2.2.2.2.1
theorem dX5_come_87 : decode cX5_come 87 = .ok (.getfield 22, 3) := dX5_come_r60.2.2.2.2.2.2.2.2.2.2.2.2.2.2.2.1
theorem dX5_come_r90 : zdcP cX5_come 90 [(.iconst 1, 1), (.iadd, 1), (.aload_n 0, 1), (.getfield 19, 3), (.iconst 2, 1), (.iadd, 1), (.invokestatic 70, 3), (.putfield 22, 3), (.aload_n 0, 1), (.invokevirtual 114, 3), (.goto 15, 3), (.aload_n 0, 1), (.invokevirtual 117, 3), (.goto 8, 3), (.aload_n 0, 1), (.iload_n 1, 1)] := zdcA_ok (by decide +kernel)
theorem dX5_come_90 : decode cX5_come 90 = .ok (.iconst 1, 1) := dX5_come_r90.1
theorem dX5_come_91 : decode cX5_come 91 = .ok (.iadd, 1) := dX5_come_r90.2.1
theorem dX5_come_92 : decode cX5_come 92 = .ok (.aload_n 0, 1) := dX5_come_r90.2.2.1
theorem dX5_come_93 : decode cX5_come 93 = .ok (.getfield 19, 3) := dX5_come_r90.2.2.2.1
theorem dX5_come_96 : decode cX5_come 96 = .ok (.iconst 2, 1) := dX5_come_r90.2.2.2.2.1
theorem dX5_come_97 : decode cX5_come 97 = .ok (.iadd, 1) := dX5_come_r90.2.2.2.2.2.1
theorem dX5_come_98 : decode cX5_come 98 = .ok (.invokestatic 70, 3) := dX5_come_r90.2.2.2.2.2.2.1
theorem dX5_come_101 : decode cX5_come 101 = .ok (.putfield 22, 3) := dX5_come_r90.2.2.2.2.2.2.2.1
theorem dX5_come_104 : decode cX5_come 104 = .ok (.aload_n 0, 1) := dX5_come_r90.2.2.2.2.2.2.2.2.1
theorem dX5_come_105 : decode cX5_come 105 = .ok (.invokevirtual 114, 3) := dX5_come_r90.2.2.2.2.2.2.2.2.2.1
theorem dX5_come_108 : decode cX5_come 108 = .ok (.goto 15, 3) := dX5_come_r90.2.2.2.2.2.2.2.2.2.2.1
theorem dX5_come_111 : decode cX5_come 111 = .ok (.aload_n 0, 1) := dX5_come_r90.2.2.2.2.2.2.2.2.2.2.2.1
theorem dX5_come_112 : decode cX5_come 112 = .ok (.invokevirtual 117, 3) := dX5_come_r90.2.2.2.2.2.2.2.2.2.2.2.2.1
theorem dX5_come_115 : decode cX5_come 115 = .ok (.goto 8, 3) := dX5_come_r90.2.2.2.2.2.2.2.2.2.2.2.2.2.1
theorem dX5_come_118 : decode cX5_come 118 = .ok (.aload_n 0, 1) := dX5_come_r90.2.2.2.2.2.2.2.2.2.2.2.2.2.2.1
theorem dX5_come_119 : decode cX5_come 119 = .ok (.iload_n 1, 1) := dX5_come_r90.2.2.2.2.2.2.2.2.2.2.2.2.2.2.2.1
theorem dX5_come_r120 : zdcP cX5_come 120 [(.invokevirtual 120, 3), (.return_, 1)] := zdcA_ok (by decide +kernel)
theorem dX5_come_120 : decode cX5_come 120 = .ok (.invokevirtual 120, 3) := dX5_come_r120.1
theorem dX5_come_123 : decode cX5_come 123 = .ok (.return_, 1) := dX5_come_r120.2.1
def wp_56 (w0 : Nat) (y0 : Nat) (r0 : Nat) (v1 : Int32) (m : zf_Me) (Q : zf_Me → Prop) : Prop := (((v1.toInt < 6 ∨ v1.toInt > 9) → wp_58 w0 y0 r0 v1 m (fun m2 => Q m2)) ∧ (v1.toInt = 6 → wp_57 w0 y0 r0 m (fun m4 => Q m4)) ∧ (v1.toInt = 7 → (∀ m5, m5 = zf_u m w0 7 ((m.1 w0 7) - 1) → (∀ m7, m7 = zf_u m5 w0 4 (if ((m5.1 w0 3) + 2) < ((m5.1 w0 4) + 2) then ((m5.1 w0 3) + 2) else ((m5.1 w0 4) + 2)) → wp_57 w0 y0 r0 m7 (fun m10 => Q m10)))) ∧ (v1.toInt = 8 → (∀ m11, m11 = zf_u m w0 8 ((m.1 w0 8) - 1) → (∀ m13, m13 = zf_u m11 w0 4 (if ((m11.1 w0 3) + 2) < ((m11.1 w0 4) + 1) then ((m11.1 w0 3) + 2) else ((m11.1 w0 4) + 1)) → wp_57 w0 y0 r0 m13 (fun m16 => Q m16)))) ∧ (v1.toInt = 9 → wp_60 w0 y0 r0 m (fun m18 => Q m18)))
theorem zr_56 {d : Nat} (hd : 3 ≤ d) {w0 : Nat} {y0 : Nat} {r0 : Nat} (hp0 : zf_walk w0 y0 r0) {v1 : Int32} {Q : zf_Me → Prop} {m : zf_Me} (h : wp_56 w0 y0 r0 v1 m Q) : zf_M d 56 [.inr (.inr (1, w0)), .inl v1] m (zf_O Q) := by
  obtain ⟨e, rfl⟩ : ∃ z, d = z + 1 := ⟨d - 1, by omega⟩
  unfold wp_56 at h
  refine zf_M_of (Nat.le_of_ble_eq_true rfl) zm_56 (L := [some (.inr (.inr (1, w0))), some (.inl v1)]) rfl ?_
  refine zf_ld (pc' := 1) (v := .inl v1) dX5_come_0 rfl (fun _ _ _ => rfl) rfl rfl rfl ?_
  refine zf_tsc (tgd := 118) dX5_come_1 rfl [32, 39, 75, 111] (by decide) (by decide) (fun g => ?_) (zl_cons (fun g => ?_) (zl_cons (fun g => ?_) (zl_cons (fun g => ?_) (zl_cons (fun g => ?_) (zl_nil)))))
  · replace h := h.1 (by omega)
    refine zf_ld (pc' := 119) (v := .inr (.inr (1, w0))) dX5_come_118 rfl (fun _ _ _ => rfl) rfl rfl rfl ?_
    refine zf_ld (pc' := 120) (v := .inl v1) dX5_come_119 rfl (fun _ _ _ => rfl) rfl rfl rfl ?_
    refine zf_iv (k := 58) (pc' := 123) (r := []) dX5_come_120 rfl rfl rfl rfl hp0.1 hp0.2.1 rfl rfl (zr_58 (by omega) hp0 h) (zf_kO (fun m2 h => ?_))
    exact zf_rv dX5_come_123 rfl h
  · replace h := h.2.1 (by omega)
    refine zf_ld (pc' := 33) (v := .inr (.inr (1, w0))) dX5_come_32 rfl (fun _ _ _ => rfl) rfl rfl rfl ?_
    refine zf_iv (k := 57) (pc' := 36) (r := []) dX5_come_33 rfl rfl rfl rfl hp0.1 hp0.2.1 rfl rfl (zr_57 (by omega) hp0 h) (zf_kO (fun m4 h => ?_))
    refine zf_goto (tgt := 123) dX5_come_36 rfl ?_
    exact zf_rv dX5_come_123 rfl h
  · replace h := h.2.2.1 (by omega)
    refine zf_ld (pc' := 40) (v := .inr (.inr (1, w0))) dX5_come_39 rfl (fun _ _ _ => rfl) rfl rfl rfl ?_
    refine zf_in (pc' := 41) (S' := [.inr (.inr (1, w0)), .inr (.inr (1, w0))]) dX5_come_40 rfl (fun _ _ _ => rfl) ?_
    refine zf_gfi (pc' := 44) dX5_come_41 rfl rfl hp0.1 hp0.2.1 rfl ?_
    refine zf_ic (v := 1) (pc' := 45) dX5_come_44 rfl rfl ?_
    refine zf_in (pc' := 46) (S' := [.inl ((m.1 w0 7) - 1), .inr (.inr (1, w0))]) dX5_come_45 rfl (fun _ _ _ => rfl) ?_
    refine zf_pf (pc' := 49) dX5_come_46 rfl rfl hp0.1 hp0.2.1 rfl rfl (fun m5 e6 => ?_)
    replace h := h m5 e6
    refine zf_ld (pc' := 50) (v := .inr (.inr (1, w0))) dX5_come_49 rfl (fun _ _ _ => rfl) rfl rfl rfl ?_
    refine zf_ld (pc' := 51) (v := .inr (.inr (1, w0))) dX5_come_50 rfl (fun _ _ _ => rfl) rfl rfl rfl ?_
    refine zf_gfi (pc' := 54) dX5_come_51 rfl rfl hp0.1 hp0.2.1 rfl ?_
    refine zf_ic (v := 2) (pc' := 55) dX5_come_54 rfl rfl ?_
    refine zf_in (pc' := 56) (S' := [.inl ((m5.1 w0 4) + 2), .inr (.inr (1, w0))]) dX5_come_55 rfl (fun _ _ _ => rfl) ?_
    refine zf_ld (pc' := 57) (v := .inr (.inr (1, w0))) dX5_come_56 rfl (fun _ _ _ => rfl) rfl rfl rfl ?_
    refine zf_gfi (pc' := 60) dX5_come_57 rfl rfl hp0.1 hp0.2.1 rfl ?_
    refine zf_ic (v := 2) (pc' := 61) dX5_come_60 rfl rfl ?_
    refine zf_in (pc' := 62) (S' := [.inl ((m5.1 w0 3) + 2), .inl ((m5.1 w0 4) + 2), .inr (.inr (1, w0))]) dX5_come_61 rfl (fun _ _ _ => rfl) ?_
    refine zf_min (pc' := 65) dX5_come_62 rfl rfl rfl ?_
    refine zf_pf (pc' := 68) dX5_come_65 rfl rfl hp0.1 hp0.2.1 rfl rfl (fun m7 e8 => ?_)
    replace h := h m7 e8
    refine zf_ld (pc' := 69) (v := .inr (.inr (1, w0))) dX5_come_68 rfl (fun _ _ _ => rfl) rfl rfl rfl ?_
    refine zf_iv (k := 57) (pc' := 72) (r := []) dX5_come_69 rfl rfl rfl rfl hp0.1 hp0.2.1 rfl rfl (zr_57 (by omega) hp0 h) (zf_kO (fun m10 h => ?_))
    refine zf_goto (tgt := 123) dX5_come_72 rfl ?_
    exact zf_rv dX5_come_123 rfl h
  · replace h := h.2.2.2.1 (by omega)
    refine zf_ld (pc' := 76) (v := .inr (.inr (1, w0))) dX5_come_75 rfl (fun _ _ _ => rfl) rfl rfl rfl ?_
    refine zf_in (pc' := 77) (S' := [.inr (.inr (1, w0)), .inr (.inr (1, w0))]) dX5_come_76 rfl (fun _ _ _ => rfl) ?_
    refine zf_gfi (pc' := 80) dX5_come_77 rfl rfl hp0.1 hp0.2.1 rfl ?_
    refine zf_ic (v := 1) (pc' := 81) dX5_come_80 rfl rfl ?_
    refine zf_in (pc' := 82) (S' := [.inl ((m.1 w0 8) - 1), .inr (.inr (1, w0))]) dX5_come_81 rfl (fun _ _ _ => rfl) ?_
    refine zf_pf (pc' := 85) dX5_come_82 rfl rfl hp0.1 hp0.2.1 rfl rfl (fun m11 e12 => ?_)
    replace h := h m11 e12
    refine zf_ld (pc' := 86) (v := .inr (.inr (1, w0))) dX5_come_85 rfl (fun _ _ _ => rfl) rfl rfl rfl ?_
    refine zf_ld (pc' := 87) (v := .inr (.inr (1, w0))) dX5_come_86 rfl (fun _ _ _ => rfl) rfl rfl rfl ?_
    refine zf_gfi (pc' := 90) dX5_come_87 rfl rfl hp0.1 hp0.2.1 rfl ?_
    refine zf_ic (v := 1) (pc' := 91) dX5_come_90 rfl rfl ?_
    refine zf_in (pc' := 92) (S' := [.inl ((m11.1 w0 4) + 1), .inr (.inr (1, w0))]) dX5_come_91 rfl (fun _ _ _ => rfl) ?_
    refine zf_ld (pc' := 93) (v := .inr (.inr (1, w0))) dX5_come_92 rfl (fun _ _ _ => rfl) rfl rfl rfl ?_
    refine zf_gfi (pc' := 96) dX5_come_93 rfl rfl hp0.1 hp0.2.1 rfl ?_
    refine zf_ic (v := 2) (pc' := 97) dX5_come_96 rfl rfl ?_
    refine zf_in (pc' := 98) (S' := [.inl ((m11.1 w0 3) + 2), .inl ((m11.1 w0 4) + 1), .inr (.inr (1, w0))]) dX5_come_97 rfl (fun _ _ _ => rfl) ?_
    refine zf_min (pc' := 101) dX5_come_98 rfl rfl rfl ?_
    refine zf_pf (pc' := 104) dX5_come_101 rfl rfl hp0.1 hp0.2.1 rfl rfl (fun m13 e14 => ?_)
    replace h := h m13 e14
    refine zf_ld (pc' := 105) (v := .inr (.inr (1, w0))) dX5_come_104 rfl (fun _ _ _ => rfl) rfl rfl rfl ?_
    refine zf_iv (k := 57) (pc' := 108) (r := []) dX5_come_105 rfl rfl rfl rfl hp0.1 hp0.2.1 rfl rfl (zr_57 (by omega) hp0 h) (zf_kO (fun m16 h => ?_))
    refine zf_goto (tgt := 123) dX5_come_108 rfl ?_
    exact zf_rv dX5_come_123 rfl h
  · replace h := h.2.2.2.2 (by omega)
    refine zf_ld (pc' := 112) (v := .inr (.inr (1, w0))) dX5_come_111 rfl (fun _ _ _ => rfl) rfl rfl rfl ?_
    refine zf_iv (k := 60) (pc' := 115) (r := []) dX5_come_112 rfl rfl rfl rfl hp0.1 hp0.2.1 rfl rfl (zr_60 (by omega) hp0 h) (zf_kO (fun m18 h => ?_))
    refine zf_goto (tgt := 123) dX5_come_115 rfl ?_
    exact zf_rv dX5_come_123 rfl h
def zt_9 : zx_MT := (1, yX1_step, cX1_step, 3, (some FieldType.boolean), 1, 0)
theorem zm_9 : zx_m 9 = zt_9 := rfl
theorem dX1_step_r0 : zdcP cX1_step 0 [(.aload_n 0, 1), (.getfield 15, 3), (.bipush 60, 2), (.if_icmp .ge 21, 3), (.aload_n 0, 1), (.getfield 26, 3), (.invokevirtual 42, 3), (.ifCond .ne 11, 3), (.aload_n 0, 1), (.iload_n 1, 1), (.invokevirtual 46, 3), (.goto 4, 3), (.iconst (-1), 1), (.istore_n 2, 1), (.iload_n 2, 1), (.iconst (-1), 1)] := zdcA_ok (by decide +kernel)
theorem dX1_step_0 : decode cX1_step 0 = .ok (.aload_n 0, 1) := dX1_step_r0.1
theorem dX1_step_1 : decode cX1_step 1 = .ok (.getfield 15, 3) := dX1_step_r0.2.1
theorem dX1_step_4 : decode cX1_step 4 = .ok (.bipush 60, 2) := dX1_step_r0.2.2.1
theorem dX1_step_6 : decode cX1_step 6 = .ok (.if_icmp .ge 21, 3) := dX1_step_r0.2.2.2.1
theorem dX1_step_9 : decode cX1_step 9 = .ok (.aload_n 0, 1) := dX1_step_r0.2.2.2.2.1
theorem dX1_step_10 : decode cX1_step 10 = .ok (.getfield 26, 3) := dX1_step_r0.2.2.2.2.2.1
theorem dX1_step_13 : decode cX1_step 13 = .ok (.invokevirtual 42, 3) := dX1_step_r0.2.2.2.2.2.2.1
theorem dX1_step_16 : decode cX1_step 16 = .ok (.ifCond .ne 11, 3) := dX1_step_r0.2.2.2.2.2.2.2.1
theorem dX1_step_19 : decode cX1_step 19 = .ok (.aload_n 0, 1) := dX1_step_r0.2.2.2.2.2.2.2.2.1
theorem dX1_step_20 : decode cX1_step 20 = .ok (.iload_n 1, 1) := dX1_step_r0.2.2.2.2.2.2.2.2.2.1
theorem dX1_step_21 : decode cX1_step 21 = .ok (.invokevirtual 46, 3) := dX1_step_r0.2.2.2.2.2.2.2.2.2.2.1
theorem dX1_step_24 : decode cX1_step 24 = .ok (.goto 4, 3) := dX1_step_r0.2.2.2.2.2.2.2.2.2.2.2.1
theorem dX1_step_27 : decode cX1_step 27 = .ok (.iconst (-1), 1) := dX1_step_r0.2.2.2.2.2.2.2.2.2.2.2.2.1
theorem dX1_step_28 : decode cX1_step 28 = .ok (.istore_n 2, 1) := dX1_step_r0.2.2.2.2.2.2.2.2.2.2.2.2.2.1
theorem dX1_step_29 : decode cX1_step 29 = .ok (.iload_n 2, 1) := dX1_step_r0.2.2.2.2.2.2.2.2.2.2.2.2.2.2.1
theorem dX1_step_30 : decode cX1_step 30 = .ok (.iconst (-1), 1) := dX1_step_r0.2.2.2.2.2.2.2.2.2.2.2.2.2.2.2.1
theorem dX1_step_r31 : zdcP cX1_step 31 [(.if_icmp .ne 5, 3), (.iconst 0, 1), (.ireturn, 1), (.aload_n 0, 1), (.getfield 26, 3), (.iload_n 2, 1), (.invokevirtual 50, 3), (.aload_n 0, 1), (.dup, 1), (.getfield 15, 3), (.iconst 1, 1), (.iadd, 1), (.putfield 15, 3), (.aload_n 0, 1), (.aload_n 0, 1), (.getfield 18, 3)] := zdcA_ok (by decide +kernel)
theorem dX1_step_31 : decode cX1_step 31 = .ok (.if_icmp .ne 5, 3) := dX1_step_r31.1
theorem dX1_step_34 : decode cX1_step 34 = .ok (.iconst 0, 1) := dX1_step_r31.2.1
theorem dX1_step_35 : decode cX1_step 35 = .ok (.ireturn, 1) := dX1_step_r31.2.2.1
theorem dX1_step_36 : decode cX1_step 36 = .ok (.aload_n 0, 1) := dX1_step_r31.2.2.2.1
theorem dX1_step_37 : decode cX1_step 37 = .ok (.getfield 26, 3) := dX1_step_r31.2.2.2.2.1
theorem dX1_step_40 : decode cX1_step 40 = .ok (.iload_n 2, 1) := dX1_step_r31.2.2.2.2.2.1
theorem dX1_step_41 : decode cX1_step 41 = .ok (.invokevirtual 50, 3) := dX1_step_r31.2.2.2.2.2.2.1
theorem dX1_step_44 : decode cX1_step 44 = .ok (.aload_n 0, 1) := dX1_step_r31.2.2.2.2.2.2.2.1
theorem dX1_step_45 : decode cX1_step 45 = .ok (.dup, 1) := dX1_step_r31.2.2.2.2.2.2.2.2.1
theorem dX1_step_46 : decode cX1_step 46 = .ok (.getfield 15, 3) := dX1_step_r31.2.2.2.2.2.2.2.2.2.1
theorem dX1_step_49 : decode cX1_step 49 = .ok (.iconst 1, 1) := dX1_step_r31.2.2.2.2.2.2.2.2.2.2.1
theorem dX1_step_50 : decode cX1_step 50 = .ok (.iadd, 1) := dX1_step_r31.2.2.2.2.2.2.2.2.2.2.2.1
theorem dX1_step_51 : decode cX1_step 51 = .ok (.putfield 15, 3) := dX1_step_r31.2.2.2.2.2.2.2.2.2.2.2.2.1
theorem dX1_step_54 : decode cX1_step 54 = .ok (.aload_n 0, 1) := dX1_step_r31.2.2.2.2.2.2.2.2.2.2.2.2.2.1
theorem dX1_step_55 : decode cX1_step 55 = .ok (.aload_n 0, 1) := dX1_step_r31.2.2.2.2.2.2.2.2.2.2.2.2.2.2.1
theorem dX1_step_56 : decode cX1_step 56 = .ok (.getfield 18, 3) := dX1_step_r31.2.2.2.2.2.2.2.2.2.2.2.2.2.2.2.1
theorem dX1_step_r59 : zdcP cX1_step 59 [(.aload_n 0, 1), (.getfield 26, 3), (.invokevirtual 34, 3), (.invokestatic 54, 3), (.putfield 18, 3), (.iload_n 2, 1), (.bipush 9, 2), (.if_icmp .eq 61, 3), (.aload_n 0, 1), (.getfield 26, 3), (.getfield 60, 3), (.getfield 64, 3), (.ifCond .le 48, 3), (.aload_n 0, 1), (.getfield 26, 3), (.getfield 60, 3)] := zdcA_ok (by decide +kernel)
theorem dX1_step_59 : decode cX1_step 59 = .ok (.aload_n 0, 1) := dX1_step_r59.1
theorem dX1_step_60 : decode cX1_step 60 = .ok (.getfield 26, 3) := dX1_step_r59.2.1
theorem dX1_step_63 : decode cX1_step 63 = .ok (.invokevirtual 34, 3) := dX1_step_r59.2.2.1
theorem dX1_step_66 : decode cX1_step 66 = .ok (.invokestatic 54, 3) := dX1_step_r59.2.2.2.1
theorem dX1_step_69 : decode cX1_step 69 = .ok (.putfield 18, 3) := dX1_step_r59.2.2.2.2.1
theorem dX1_step_72 : decode cX1_step 72 = .ok (.iload_n 2, 1) := dX1_step_r59.2.2.2.2.2.1
theorem dX1_step_73 : decode cX1_step 73 = .ok (.bipush 9, 2) := dX1_step_r59.2.2.2.2.2.2.1
theorem dX1_step_75 : decode cX1_step 75 = .ok (.if_icmp .eq 61, 3) := dX1_step_r59.2.2.2.2.2.2.2.1
theorem dX1_step_78 : decode cX1_step 78 = .ok (.aload_n 0, 1) := dX1_step_r59.2.2.2.2.2.2.2.2.1
theorem dX1_step_79 : decode cX1_step 79 = .ok (.getfield 26, 3) := dX1_step_r59.2.2.2.2.2.2.2.2.2.1
theorem dX1_step_82 : decode cX1_step 82 = .ok (.getfield 60, 3) := dX1_step_r59.2.2.2.2.2.2.2.2.2.2.1
theorem dX1_step_85 : decode cX1_step 85 = .ok (.getfield 64, 3) := dX1_step_r59.2.2.2.2.2.2.2.2.2.2.2.1
theorem dX1_step_88 : decode cX1_step 88 = .ok (.ifCond .le 48, 3) := dX1_step_r59.2.2.2.2.2.2.2.2.2.2.2.2.1
theorem dX1_step_91 : decode cX1_step 91 = .ok (.aload_n 0, 1) := dX1_step_r59.2.2.2.2.2.2.2.2.2.2.2.2.2.1
theorem dX1_step_92 : decode cX1_step 92 = .ok (.getfield 26, 3) := dX1_step_r59.2.2.2.2.2.2.2.2.2.2.2.2.2.2.1
theorem dX1_step_95 : decode cX1_step 95 = .ok (.getfield 60, 3) := dX1_step_r59.2.2.2.2.2.2.2.2.2.2.2.2.2.2.2.1
theorem dX1_step_r98 : zdcP cX1_step 98 [(.getfield 69, 3), (.aload_n 0, 1), (.getfield 26, 3), (.getfield 73, 3), (.iconst 1, 1), (.isub, 1), (.iaload, 1), (.iconst 1, 1), (.if_icmp .ne 24, 3), (.aload_n 0, 1), (.aload_n 0, 1), (.getfield 9, 3), (.iconst 1, 1), (.iadd, 1), (.aload_n 0, 1), (.getfield 26, 3)] := zdcA_ok (by decide +kernel)
theorem dX1_step_98 : decode cX1_step 98 = .ok (.getfield 69, 3) := dX1_step_r98.1
theorem dX1_step_101 : decode cX1_step 101 = .ok (.aload_n 0, 1) := dX1_step_r98.2.1
theorem dX1_step_102 : decode cX1_step 102 = .ok (.getfield 26, 3) := dX1_step_r98.2.2.1
theorem dX1_step_105 : decode cX1_step 105 = .ok (.getfield 73, 3) := dX1_step_r98.2.2.2.1
theorem dX1_step_108 : decode cX1_step 108 = .ok (.iconst 1, 1) := dX1_step_r98.2.2.2.2.1
theorem dX1_step_109 : decode cX1_step 109 = .ok (.isub, 1) := dX1_step_r98.2.2.2.2.2.1
theorem dX1_step_110 : decode cX1_step 110 = .ok (.iaload, 1) := dX1_step_r98.2.2.2.2.2.2.1
theorem dX1_step_111 : decode cX1_step 111 = .ok (.iconst 1, 1) := dX1_step_r98.2.2.2.2.2.2.2.1
theorem dX1_step_112 : decode cX1_step 112 = .ok (.if_icmp .ne 24, 3) := dX1_step_r98.2.2.2.2.2.2.2.2.1
theorem dX1_step_115 : decode cX1_step 115 = .ok (.aload_n 0, 1) := dX1_step_r98.2.2.2.2.2.2.2.2.2.1
theorem dX1_step_116 : decode cX1_step 116 = .ok (.aload_n 0, 1) := dX1_step_r98.2.2.2.2.2.2.2.2.2.2.1
theorem dX1_step_117 : decode cX1_step 117 = .ok (.getfield 9, 3) := dX1_step_r98.2.2.2.2.2.2.2.2.2.2.2.1
theorem dX1_step_120 : decode cX1_step 120 = .ok (.iconst 1, 1) := dX1_step_r98.2.2.2.2.2.2.2.2.2.2.2.2.1
theorem dX1_step_121 : decode cX1_step 121 = .ok (.iadd, 1) := dX1_step_r98.2.2.2.2.2.2.2.2.2.2.2.2.2.1
theorem dX1_step_122 : decode cX1_step 122 = .ok (.aload_n 0, 1) := dX1_step_r98.2.2.2.2.2.2.2.2.2.2.2.2.2.2.1
theorem dX1_step_123 : decode cX1_step 123 = .ok (.getfield 26, 3) := dX1_step_r98.2.2.2.2.2.2.2.2.2.2.2.2.2.2.2.1
theorem dX1_step_r126 : zdcP cX1_step 126 [(.getfield 60, 3), (.getfield 64, 3), (.irem, 1), (.putfield 9, 3), (.iconst 1, 1), (.ireturn, 1)] := zdcA_ok (by decide +kernel)
theorem dX1_step_126 : decode cX1_step 126 = .ok (.getfield 60, 3) := dX1_step_r126.1
theorem dX1_step_129 : decode cX1_step 129 = .ok (.getfield 64, 3) := dX1_step_r126.2.1
theorem dX1_step_132 : decode cX1_step 132 = .ok (.irem, 1) := dX1_step_r126.2.2.1
theorem dX1_step_133 : decode cX1_step 133 = .ok (.putfield 9, 3) := dX1_step_r126.2.2.2.1
theorem dX1_step_136 : decode cX1_step 136 = .ok (.iconst 1, 1) := dX1_step_r126.2.2.2.2.1
theorem dX1_step_137 : decode cX1_step 137 = .ok (.ireturn, 1) := dX1_step_r126.2.2.2.2.2.1
def wq_9_28 (v1 : Int32) (u0 : Int32) (m : zf_Me) (Q : Bool → zf_Me → Prop) : Prop := ((¬ u0.toInt = (-1) → wp_56 19 3 20 u0 m (fun m2 => (∀ m3, m3 = zf_u m2 18 2 ((m2.1 18 2) + 1) → wp_49 19 3 20 m3 (fun x5 m6 => (∀ m7, m7 = zf_u m6 18 3 (if (m3.1 18 3) < x5 then x5 else (m3.1 18 3)) → ((u0.toInt = 9 → Q true m7) ∧ (¬ u0.toInt = 9 → ((((m7.1 3 5)).toInt ≤ 0 → Q true m7) ∧ (((m7.1 3 5)).toInt > 0 → ((0 ≤ (Int32.toInt ((m7.1 19 10) - 1)) ∧ (Int32.toInt ((m7.1 19 10) - 1)) < (24 : Int)) ∧ ((¬ ((m7.1 5 (Int32.toInt ((m7.1 19 10) - 1)).toNat)).toInt = 1 → Q true m7) ∧ (((m7.1 5 (Int32.toInt ((m7.1 19 10) - 1)).toNat)).toInt = 1 → (¬ (Int32.toInt (m7.1 3 5)) = 0 ∧ (∀ m9, m9 = zf_u m7 18 1 (((m7.1 18 1) + 1) - ((m7.1 18 1) + 1) / (m7.1 3 5) * (m7.1 3 5)) → Q true m9)))))))))))))) ∧ (u0.toInt = (-1) → Q false m))
theorem zq_9_28 {d : Nat} (hd : 4 ≤ d) {v1 : Int32} {Q : Bool → zf_Me → Prop} {u0 : Int32} {m : zf_Me} (h : wq_9_28 v1 u0 m Q) : zf_W none 0 0 d zt_9 28 [some (.inr (.inr (1, 18))), none, none] [.inl u0] m (zf_B Q) := by
  obtain ⟨e, rfl⟩ : ∃ z, d = z + 1 := ⟨d - 1, by omega⟩
  unfold wq_9_28 at h
  refine zf_st (pc' := 29) (L2 := [some (.inr (.inr (1, 18))), none, some (.inl u0)]) dX1_step_28 rfl (fun _ _ _ => rfl) rfl rfl rfl rfl rfl rfl ?_
  refine zf_ld (pc' := 30) (v := .inl u0) dX1_step_29 rfl (fun _ _ _ => rfl) rfl rfl rfl ?_
  refine zf_ic (v := (-1)) (pc' := 31) dX1_step_30 rfl rfl ?_
  refine zf_icmp_ne (tgt := 36) (pc' := 34) dX1_step_31 rfl rfl (fun g => ?_) (fun g => ?_)
  · replace h := h.1 g
    refine zf_ld (pc' := 37) (v := .inr (.inr (1, 18))) dX1_step_36 rfl (fun _ _ _ => rfl) rfl rfl rfl ?_
    refine zf_gfr (pc' := 40) (b := 19) dX1_step_37 rfl rfl (by decide) rfl rfl ?_
    refine zf_ld (pc' := 41) (v := .inl u0) dX1_step_40 rfl (fun _ _ _ => rfl) rfl rfl rfl ?_
    refine zf_iv (k := 56) (pc' := 44) (r := []) dX1_step_41 rfl rfl rfl rfl zf_walk19.1 zf_walk19.2.1 rfl rfl (zr_56 (by omega) zf_walk19 h) (zf_kO (fun m2 h => ?_))
    refine zf_ld (pc' := 45) (v := .inr (.inr (1, 18))) dX1_step_44 rfl (fun _ _ _ => rfl) rfl rfl rfl ?_
    refine zf_in (pc' := 46) (S' := [.inr (.inr (1, 18)), .inr (.inr (1, 18))]) dX1_step_45 rfl (fun _ _ _ => rfl) ?_
    refine zf_gfi (pc' := 49) dX1_step_46 rfl rfl (by decide) rfl rfl ?_
    refine zf_ic (v := 1) (pc' := 50) dX1_step_49 rfl rfl ?_
    refine zf_in (pc' := 51) (S' := [.inl ((m2.1 18 2) + 1), .inr (.inr (1, 18))]) dX1_step_50 rfl (fun _ _ _ => rfl) ?_
    refine zf_pf (pc' := 54) dX1_step_51 rfl rfl (by decide) rfl rfl rfl (fun m3 e4 => ?_)
    replace h := h m3 e4
    refine zf_ld (pc' := 55) (v := .inr (.inr (1, 18))) dX1_step_54 rfl (fun _ _ _ => rfl) rfl rfl rfl ?_
    refine zf_ld (pc' := 56) (v := .inr (.inr (1, 18))) dX1_step_55 rfl (fun _ _ _ => rfl) rfl rfl rfl ?_
    refine zf_gfi (pc' := 59) dX1_step_56 rfl rfl (by decide) rfl rfl ?_
    refine zf_ld (pc' := 60) (v := .inr (.inr (1, 18))) dX1_step_59 rfl (fun _ _ _ => rfl) rfl rfl rfl ?_
    refine zf_gfr (pc' := 63) (b := 19) dX1_step_60 rfl rfl (by decide) rfl rfl ?_
    refine zf_iv (k := 49) (pc' := 66) (r := [.inl (m3.1 18 3), .inr (.inr (1, 18))]) dX1_step_63 rfl rfl rfl rfl zf_walk19.1 zf_walk19.2.1 rfl rfl (zr_49 (by omega) zf_walk19 h) (zf_kI (fun x5 m6 h => ?_))
    refine zf_max (pc' := 69) dX1_step_66 rfl rfl rfl ?_
    refine zf_pf (pc' := 72) dX1_step_69 rfl rfl (by decide) rfl rfl rfl (fun m7 e8 => ?_)
    replace h := h m7 e8
    refine zf_ld (pc' := 73) (v := .inl u0) dX1_step_72 rfl (fun _ _ _ => rfl) rfl rfl rfl ?_
    refine zf_bi (v := 9) (pc' := 75) dX1_step_73 rfl rfl ?_
    refine zf_icmp_eq (tgt := 136) (pc' := 78) dX1_step_75 rfl rfl (fun g => ?_) (fun g => ?_)
    · replace h := h.1 g
      refine zf_ic (v := 1) (pc' := 137) dX1_step_136 rfl rfl ?_
      exact zf_rb (b := true) dX1_step_137 rfl h
    · replace h := h.2 g
      refine zf_ld (pc' := 79) (v := .inr (.inr (1, 18))) dX1_step_78 rfl (fun _ _ _ => rfl) rfl rfl rfl ?_
      refine zf_gfr (pc' := 82) (b := 19) dX1_step_79 rfl rfl (by decide) rfl rfl ?_
      refine zf_gfr (pc' := 85) (b := 3) dX1_step_82 rfl rfl zf_walk19.1 zf_walk19.2.1 rfl ?_
      refine zf_gfi (pc' := 88) dX1_step_85 rfl rfl zf_walk19.2.2.1.1 zf_walk19.2.2.1.2.1 rfl ?_
      refine zf_if_le (tgt := 136) (pc' := 91) dX1_step_88 rfl rfl (fun g => ?_) (fun g => ?_)
      · replace h := h.1 g
        refine zf_ic (v := 1) (pc' := 137) dX1_step_136 rfl rfl ?_
        exact zf_rb (b := true) dX1_step_137 rfl h
      · replace h := h.2 g
        refine zf_ld (pc' := 92) (v := .inr (.inr (1, 18))) dX1_step_91 rfl (fun _ _ _ => rfl) rfl rfl rfl ?_
        refine zf_gfr (pc' := 95) (b := 19) dX1_step_92 rfl rfl (by decide) rfl rfl ?_
        refine zf_gfr (pc' := 98) (b := 3) dX1_step_95 rfl rfl zf_walk19.1 zf_walk19.2.1 rfl ?_
        refine zf_gfr (pc' := 101) (b := 5) dX1_step_98 rfl rfl zf_walk19.2.2.1.1 zf_walk19.2.2.1.2.1 rfl ?_
        refine zf_ld (pc' := 102) (v := .inr (.inr (1, 18))) dX1_step_101 rfl (fun _ _ _ => rfl) rfl rfl rfl ?_
        refine zf_gfr (pc' := 105) (b := 19) dX1_step_102 rfl rfl (by decide) rfl rfl ?_
        refine zf_gfi (pc' := 108) dX1_step_105 rfl rfl zf_walk19.1 zf_walk19.2.1 rfl ?_
        refine zf_ic (v := 1) (pc' := 109) dX1_step_108 rfl rfl ?_
        refine zf_in (pc' := 110) (S' := [.inl ((m7.1 19 10) - 1), .inr (.inr (1, 5))]) dX1_step_109 rfl (fun _ _ _ => rfl) ?_
        refine zf_ial (pc' := 111) dX1_step_110 rfl zf_walk19.2.2.1.2.2.2.1.1 zf_walk19.2.2.1.2.2.2.1.2 h.1 rfl ?_
        replace h := h.2
        refine zf_ic (v := 1) (pc' := 112) dX1_step_111 rfl rfl ?_
        refine zf_icmp_ne (tgt := 136) (pc' := 115) dX1_step_112 rfl rfl (fun g => ?_) (fun g => ?_)
        · replace h := h.1 g
          refine zf_ic (v := 1) (pc' := 137) dX1_step_136 rfl rfl ?_
          exact zf_rb (b := true) dX1_step_137 rfl h
        · replace h := h.2 g
          refine zf_ld (pc' := 116) (v := .inr (.inr (1, 18))) dX1_step_115 rfl (fun _ _ _ => rfl) rfl rfl rfl ?_
          refine zf_ld (pc' := 117) (v := .inr (.inr (1, 18))) dX1_step_116 rfl (fun _ _ _ => rfl) rfl rfl rfl ?_
          refine zf_gfi (pc' := 120) dX1_step_117 rfl rfl (by decide) rfl rfl ?_
          refine zf_ic (v := 1) (pc' := 121) dX1_step_120 rfl rfl ?_
          refine zf_in (pc' := 122) (S' := [.inl ((m7.1 18 1) + 1), .inr (.inr (1, 18))]) dX1_step_121 rfl (fun _ _ _ => rfl) ?_
          refine zf_ld (pc' := 123) (v := .inr (.inr (1, 18))) dX1_step_122 rfl (fun _ _ _ => rfl) rfl rfl rfl ?_
          refine zf_gfr (pc' := 126) (b := 19) dX1_step_123 rfl rfl (by decide) rfl rfl ?_
          refine zf_gfr (pc' := 129) (b := 3) dX1_step_126 rfl rfl zf_walk19.1 zf_walk19.2.1 rfl ?_
          refine zf_gfi (pc' := 132) dX1_step_129 rfl rfl zf_walk19.2.2.1.1 zf_walk19.2.2.1.2.1 rfl ?_
          refine zf_rem (pc' := 133) dX1_step_132 rfl (fun z => h.1 (congrArg Int32.toInt z)) ?_
          replace h := h.2
          refine zf_pf (pc' := 136) dX1_step_133 rfl rfl (by decide) rfl rfl rfl (fun m9 e10 => ?_)
          replace h := h m9 e10
          refine zf_ic (v := 1) (pc' := 137) dX1_step_136 rfl rfl ?_
          exact zf_rb (b := true) dX1_step_137 rfl h
  · replace h := h.2 g
    refine zf_ic (v := 0) (pc' := 35) dX1_step_34 rfl rfl ?_
    exact zf_rb (b := false) dX1_step_35 rfl h
def wq_9_27 (v1 : Int32) (m : zf_Me) (Q : Bool → zf_Me → Prop) : Prop := wq_9_28 v1 (-1) m Q
theorem zq_9_27 {d : Nat} (hd : 4 ≤ d) {v1 : Int32} {Q : Bool → zf_Me → Prop} {m : zf_Me} (h : wq_9_27 v1 m Q) : zf_W none 0 0 d zt_9 27 [some (.inr (.inr (1, 18))), none, none] [] m (zf_B Q) := by
  unfold wq_9_27 at h
  refine zf_ic (v := (-1)) (pc' := 28) dX1_step_27 rfl rfl ?_
  exact zf_lo (zq_9_28 (by omega) h) ⟨rfl, trivial⟩
def wp_9 (v1 : Int32) (m : zf_Me) (Q : Bool → zf_Me → Prop) : Prop := ((((m.1 18 2)).toInt ≥ 60 → wq_9_27 v1 m Q) ∧ (((m.1 18 2)).toInt < 60 → wp_47 19 3 20 m (fun b11 m12 => ((b11 = true → wq_9_27 v1 m12 Q) ∧ (b11 = false → wp_10 v1 m12 (fun x13 m14 => wq_9_28 v1 x13 m14 Q))))))
theorem zr_9 {d : Nat} (hd : 4 ≤ d) {v1 : Int32} {Q : Bool → zf_Me → Prop} {m : zf_Me} (h : wp_9 v1 m Q) : zf_M d 9 [.inr (.inr (1, 18)), .inl v1] m (zf_B Q) := by
  obtain ⟨e, rfl⟩ : ∃ z, d = z + 1 := ⟨d - 1, by omega⟩
  unfold wp_9 at h
  refine zf_M_of (Nat.le_of_ble_eq_true rfl) zm_9 (L := [some (.inr (.inr (1, 18))), some (.inl v1), none]) rfl ?_
  refine zf_ld (pc' := 1) (v := .inr (.inr (1, 18))) dX1_step_0 rfl (fun _ _ _ => rfl) rfl rfl rfl ?_
  refine zf_gfi (pc' := 4) dX1_step_1 rfl rfl (by decide) rfl rfl ?_
  refine zf_bi (v := 60) (pc' := 6) dX1_step_4 rfl rfl ?_
  refine zf_icmp_ge (tgt := 27) (pc' := 9) dX1_step_6 rfl rfl (fun g => ?_) (fun g => ?_)
  · replace h := h.1 g
    exact zf_lo (zq_9_27 (by omega) h) ⟨rfl, trivial⟩
  · replace h := h.2 g
    refine zf_ld (pc' := 10) (v := .inr (.inr (1, 18))) dX1_step_9 rfl (fun _ _ _ => rfl) rfl rfl rfl ?_
    refine zf_gfr (pc' := 13) (b := 19) dX1_step_10 rfl rfl (by decide) rfl rfl ?_
    refine zf_iv (k := 47) (pc' := 16) (r := []) dX1_step_13 rfl rfl rfl rfl zf_walk19.1 zf_walk19.2.1 rfl rfl (zr_47 (by omega) zf_walk19 h) (zf_kB (fun b11 m12 h => ?_))
    refine zf_ib_ne (tgt := 27) (pc' := 19) dX1_step_16 rfl rfl (fun g => ?_) (fun g => ?_)
    · replace h := h.1 g
      exact zf_lo (zq_9_27 (by omega) h) ⟨rfl, trivial⟩
    · replace h := h.2 g
      refine zf_ld (pc' := 20) (v := .inr (.inr (1, 18))) dX1_step_19 rfl (fun _ _ _ => rfl) rfl rfl rfl ?_
      refine zf_ld (pc' := 21) (v := .inl v1) dX1_step_20 rfl (fun _ _ _ => rfl) rfl rfl rfl ?_
      refine zf_iv (k := 10) (pc' := 24) (r := []) dX1_step_21 rfl rfl rfl rfl (by decide) rfl rfl rfl (zr_10 (by omega) h) (zf_kI (fun x13 m14 h => ?_))
      refine zf_goto (tgt := 28) dX1_step_24 rfl ?_
      exact zf_lo (zq_9_28 (by omega) h) ⟨rfl, trivial⟩
def zt_8 : zx_MT := (1, yX1_goOn, cX1_goOn, 3, none, 1, 0)
theorem zm_8 : zx_m 8 = zt_8 := rfl
theorem dX1_goOn_r0 : zdcP cX1_goOn 0 [(.iconst 0, 1), (.istore_n 2, 1), (.iload_n 2, 1), (.bipush 60, 2), (.if_icmp .ge 18, 3), (.aload_n 0, 1), (.iload_n 1, 1), (.invokevirtual 38, 3), (.ifCond .ne 4, 3), (.return_, 1), (.iinc 2 1, 3), (.goto (-18), 3), (.return_, 1)] := zdcA_ok (by decide +kernel)
theorem dX1_goOn_0 : decode cX1_goOn 0 = .ok (.iconst 0, 1) := dX1_goOn_r0.1
theorem dX1_goOn_1 : decode cX1_goOn 1 = .ok (.istore_n 2, 1) := dX1_goOn_r0.2.1
theorem dX1_goOn_2 : decode cX1_goOn 2 = .ok (.iload_n 2, 1) := dX1_goOn_r0.2.2.1
theorem dX1_goOn_3 : decode cX1_goOn 3 = .ok (.bipush 60, 2) := dX1_goOn_r0.2.2.2.1
theorem dX1_goOn_5 : decode cX1_goOn 5 = .ok (.if_icmp .ge 18, 3) := dX1_goOn_r0.2.2.2.2.1
theorem dX1_goOn_8 : decode cX1_goOn 8 = .ok (.aload_n 0, 1) := dX1_goOn_r0.2.2.2.2.2.1
theorem dX1_goOn_9 : decode cX1_goOn 9 = .ok (.iload_n 1, 1) := dX1_goOn_r0.2.2.2.2.2.2.1
theorem dX1_goOn_10 : decode cX1_goOn 10 = .ok (.invokevirtual 38, 3) := dX1_goOn_r0.2.2.2.2.2.2.2.1
theorem dX1_goOn_13 : decode cX1_goOn 13 = .ok (.ifCond .ne 4, 3) := dX1_goOn_r0.2.2.2.2.2.2.2.2.1
theorem dX1_goOn_16 : decode cX1_goOn 16 = .ok (.return_, 1) := dX1_goOn_r0.2.2.2.2.2.2.2.2.2.1
theorem dX1_goOn_17 : decode cX1_goOn 17 = .ok (.iinc 2 1, 3) := dX1_goOn_r0.2.2.2.2.2.2.2.2.2.2.1
theorem dX1_goOn_20 : decode cX1_goOn 20 = .ok (.goto (-18), 3) := dX1_goOn_r0.2.2.2.2.2.2.2.2.2.2.2.1
theorem dX1_goOn_23 : decode cX1_goOn 23 = .ok (.return_, 1) := dX1_goOn_r0.2.2.2.2.2.2.2.2.2.2.2.2.1
def wq_8_2 (v1 : Int32) (Q : zf_Me → Prop) : Nat → Int32 → zf_Me → Prop
  | 0, _, _ => False
  | n + 1, v2, m => ((v2.toInt ≥ 60 → Q m) ∧ (v2.toInt < 60 → wp_9 v1 m (fun b1 m2 => ((b1 = true → wq_8_2 v1 Q n (v2 + 1) m2) ∧ (b1 = false → Q m2)))))
theorem zq_8_2 {d : Nat} (hd : 5 ≤ d) {v1 : Int32} {Q : zf_Me → Prop} : ∀ (n : Nat) (v2 : Int32) (m : zf_Me), wq_8_2 v1 Q n v2 m → zf_W none 0 0 d zt_8 2 [some (.inr (.inr (1, 18))), some (.inl v1), some (.inl v2)] [] m (zf_O Q) := by
  obtain ⟨e, rfl⟩ : ∃ z, d = z + 1 := ⟨d - 1, by omega⟩
  intro n
  induction n with
  | zero =>
    intro v2 m h
    exact h.elim
  | succ n ih =>
    intro v2 m h
    unfold wq_8_2 at h
    refine zf_ld (pc' := 3) (v := .inl v2) dX1_goOn_2 rfl (fun _ _ _ => rfl) rfl rfl rfl ?_
    refine zf_bi (v := 60) (pc' := 5) dX1_goOn_3 rfl rfl ?_
    refine zf_icmp_ge (tgt := 23) (pc' := 8) dX1_goOn_5 rfl rfl (fun g => ?_) (fun g => ?_)
    · replace h := h.1 g
      exact zf_rv dX1_goOn_23 rfl h
    · replace h := h.2 g
      refine zf_ld (pc' := 9) (v := .inr (.inr (1, 18))) dX1_goOn_8 rfl (fun _ _ _ => rfl) rfl rfl rfl ?_
      refine zf_ld (pc' := 10) (v := .inl v1) dX1_goOn_9 rfl (fun _ _ _ => rfl) rfl rfl rfl ?_
      refine zf_iv (k := 9) (pc' := 13) (r := []) dX1_goOn_10 rfl rfl rfl rfl (by decide) rfl rfl rfl (zr_9 (by omega) h) (zf_kB (fun b1 m2 h => ?_))
      refine zf_ib_ne (tgt := 17) (pc' := 16) dX1_goOn_13 rfl rfl (fun g => ?_) (fun g => ?_)
      · replace h := h.1 g
        refine zf_ii (y := (v2 + 1)) (L2 := [some (.inr (.inr (1, 18))), some (.inl v1), some (.inl (v2 + 1))]) (pc' := 20) dX1_goOn_17 rfl rfl rfl rfl rfl ?_
        refine zf_goto (tgt := 2) dX1_goOn_20 rfl ?_
        exact zf_lo (ih _ _ h) ⟨rfl, rfl, rfl, trivial⟩
      · replace h := h.2 g
        exact zf_rv dX1_goOn_16 rfl h
def wp_8 (v1 : Int32) (m : zf_Me) (Q : zf_Me → Prop) : Prop := (∃ n2, wq_8_2 v1 Q n2 0 m)
theorem zr_8 {d : Nat} (hd : 5 ≤ d) {v1 : Int32} {Q : zf_Me → Prop} {m : zf_Me} (h : wp_8 v1 m Q) : zf_M d 8 [.inr (.inr (1, 18)), .inl v1] m (zf_O Q) := by
  unfold wp_8 at h
  refine zf_M_of (Nat.le_of_ble_eq_true rfl) zm_8 (L := [some (.inr (.inr (1, 18))), some (.inl v1), none]) rfl ?_
  refine zf_ic (v := 0) (pc' := 1) dX1_goOn_0 rfl rfl ?_
  refine zf_st (pc' := 2) (L2 := [some (.inr (.inr (1, 18))), some (.inl v1), some (.inl 0)]) dX1_goOn_1 rfl (fun _ _ _ => rfl) rfl rfl rfl rfl rfl rfl ?_
  obtain ⟨n2, h⟩ := h
  exact zf_lo (zq_8_2 (by omega) n2 _ _ h) ⟨rfl, rfl, rfl, trivial⟩
def zt_16 : zx_MT := (2, yX2_isHopeless, cX2_isHopeless, 4, (some FieldType.boolean), 2, 0)
theorem zm_16 : zx_m 16 = zt_16 := rfl
theorem dX2_isHopeless_r0 : zdcP cX2_isHopeless 0 [(.aload_n 0, 1), (.getfield 13, 3), (.iload_n 1, 1), (.aaload, 1), (.getfield 83, 3), (.aload_n 0, 1), (.getfield 24, 3), (.iadd, 1), (.iload_n 1, 1), (.isub, 1), (.istore_n 3, 1), (.iload_n 3, 1), (.aload_n 0, 1), (.getfield 31, 3), (.if_icmp .lt 19, 3), (.iload_n 3, 1)] := zdcA_ok (by decide +kernel)
theorem dX2_isHopeless_0 : decode cX2_isHopeless 0 = .ok (.aload_n 0, 1) := dX2_isHopeless_r0.1
theorem dX2_isHopeless_1 : decode cX2_isHopeless 1 = .ok (.getfield 13, 3) := dX2_isHopeless_r0.2.1
theorem dX2_isHopeless_4 : decode cX2_isHopeless 4 = .ok (.iload_n 1, 1) := dX2_isHopeless_r0.2.2.1
theorem dX2_isHopeless_5 : decode cX2_isHopeless 5 = .ok (.aaload, 1) := dX2_isHopeless_r0.2.2.2.1
theorem dX2_isHopeless_6 : decode cX2_isHopeless 6 = .ok (.getfield 83, 3) := dX2_isHopeless_r0.2.2.2.2.1
theorem dX2_isHopeless_9 : decode cX2_isHopeless 9 = .ok (.aload_n 0, 1) := dX2_isHopeless_r0.2.2.2.2.2.1
theorem dX2_isHopeless_10 : decode cX2_isHopeless 10 = .ok (.getfield 24, 3) := dX2_isHopeless_r0.2.2.2.2.2.2.1
theorem dX2_isHopeless_13 : decode cX2_isHopeless 13 = .ok (.iadd, 1) := dX2_isHopeless_r0.2.2.2.2.2.2.2.1
theorem dX2_isHopeless_14 : decode cX2_isHopeless 14 = .ok (.iload_n 1, 1) := dX2_isHopeless_r0.2.2.2.2.2.2.2.2.1
theorem dX2_isHopeless_15 : decode cX2_isHopeless 15 = .ok (.isub, 1) := dX2_isHopeless_r0.2.2.2.2.2.2.2.2.2.1
theorem dX2_isHopeless_16 : decode cX2_isHopeless 16 = .ok (.istore_n 3, 1) := dX2_isHopeless_r0.2.2.2.2.2.2.2.2.2.2.1
theorem dX2_isHopeless_17 : decode cX2_isHopeless 17 = .ok (.iload_n 3, 1) := dX2_isHopeless_r0.2.2.2.2.2.2.2.2.2.2.2.1
theorem dX2_isHopeless_18 : decode cX2_isHopeless 18 = .ok (.aload_n 0, 1) := dX2_isHopeless_r0.2.2.2.2.2.2.2.2.2.2.2.2.1
theorem dX2_isHopeless_19 : decode cX2_isHopeless 19 = .ok (.getfield 31, 3) := dX2_isHopeless_r0.2.2.2.2.2.2.2.2.2.2.2.2.2.1
theorem dX2_isHopeless_22 : decode cX2_isHopeless 22 = .ok (.if_icmp .lt 19, 3) := dX2_isHopeless_r0.2.2.2.2.2.2.2.2.2.2.2.2.2.2.1
theorem dX2_isHopeless_25 : decode cX2_isHopeless 25 = .ok (.iload_n 3, 1) := dX2_isHopeless_r0.2.2.2.2.2.2.2.2.2.2.2.2.2.2.2.1
theorem dX2_isHopeless_r26 : zdcP cX2_isHopeless 26 [(.aload_n 0, 1), (.getfield 31, 3), (.if_icmp .ne 15, 3), (.iload_n 2, 1), (.aload_n 0, 1), (.getfield 34, 3), (.if_icmp .le 7, 3), (.iconst 1, 1), (.goto 4, 3), (.iconst 0, 1), (.ireturn, 1)] := zdcA_ok (by decide +kernel)
theorem dX2_isHopeless_26 : decode cX2_isHopeless 26 = .ok (.aload_n 0, 1) := dX2_isHopeless_r26.1
theorem dX2_isHopeless_27 : decode cX2_isHopeless 27 = .ok (.getfield 31, 3) := dX2_isHopeless_r26.2.1
theorem dX2_isHopeless_30 : decode cX2_isHopeless 30 = .ok (.if_icmp .ne 15, 3) := dX2_isHopeless_r26.2.2.1
theorem dX2_isHopeless_33 : decode cX2_isHopeless 33 = .ok (.iload_n 2, 1) := dX2_isHopeless_r26.2.2.2.1
theorem dX2_isHopeless_34 : decode cX2_isHopeless 34 = .ok (.aload_n 0, 1) := dX2_isHopeless_r26.2.2.2.2.1
theorem dX2_isHopeless_35 : decode cX2_isHopeless 35 = .ok (.getfield 34, 3) := dX2_isHopeless_r26.2.2.2.2.2.1
theorem dX2_isHopeless_38 : decode cX2_isHopeless 38 = .ok (.if_icmp .le 7, 3) := dX2_isHopeless_r26.2.2.2.2.2.2.1
theorem dX2_isHopeless_41 : decode cX2_isHopeless 41 = .ok (.iconst 1, 1) := dX2_isHopeless_r26.2.2.2.2.2.2.2.1
theorem dX2_isHopeless_42 : decode cX2_isHopeless 42 = .ok (.goto 4, 3) := dX2_isHopeless_r26.2.2.2.2.2.2.2.2.1
theorem dX2_isHopeless_45 : decode cX2_isHopeless 45 = .ok (.iconst 0, 1) := dX2_isHopeless_r26.2.2.2.2.2.2.2.2.2.1
theorem dX2_isHopeless_46 : decode cX2_isHopeless 46 = .ok (.ireturn, 1) := dX2_isHopeless_r26.2.2.2.2.2.2.2.2.2.2.1
def wp_16 (v1 : Int32) (v2 : Int32) (m : zf_Me) (Q : Bool → zf_Me → Prop) : Prop := ((0 ≤ (Int32.toInt v1) ∧ (Int32.toInt v1) < 5) ∧ ((((((m.1 (25 + 2 * (Int32.toInt v1).toNat) 10) + (m.1 21 3)) - v1)).toInt < ((m.1 21 5)).toInt → Q true m) ∧ (((((m.1 (25 + 2 * (Int32.toInt v1).toNat) 10) + (m.1 21 3)) - v1)).toInt ≥ ((m.1 21 5)).toInt → ((¬ ((((m.1 (25 + 2 * (Int32.toInt v1).toNat) 10) + (m.1 21 3)) - v1)).toInt = ((m.1 21 5)).toInt → Q false m) ∧ (((((m.1 (25 + 2 * (Int32.toInt v1).toNat) 10) + (m.1 21 3)) - v1)).toInt = ((m.1 21 5)).toInt → ((v2.toInt ≤ ((m.1 21 6)).toInt → Q false m) ∧ (v2.toInt > ((m.1 21 6)).toInt → Q true m)))))))
theorem zr_16 {d : Nat} (hd : 0 ≤ d) {v1 : Int32} {v2 : Int32} {Q : Bool → zf_Me → Prop} {m : zf_Me} (h : wp_16 v1 v2 m Q) : zf_M d 16 [.inr (.inr (1, 21)), .inl v1, .inl v2] m (zf_B Q) := by
  unfold wp_16 at h
  refine zf_M_of (Nat.le_of_ble_eq_true rfl) zm_16 (L := [some (.inr (.inr (1, 21))), some (.inl v1), some (.inl v2), none]) rfl ?_
  refine zf_ld (pc' := 1) (v := .inr (.inr (1, 21))) dX2_isHopeless_0 rfl (fun _ _ _ => rfl) rfl rfl rfl ?_
  refine zf_gfr (pc' := 4) (b := 22) dX2_isHopeless_1 rfl rfl (by decide) rfl rfl ?_
  refine zf_ld (pc' := 5) (v := .inl v1) dX2_isHopeless_4 rfl (fun _ _ _ => rfl) rfl rfl rfl ?_
  refine zf_aal (b := 25) (n := 5) (pc' := 6) dX2_isHopeless_5 rfl (by decide) rfl (by decide) rfl h.1 zf_row22 ?_
  have hb1 := h.1
  replace h := h.2
  have hx2 : zf_walk (25 + 2 * (Int32.toInt v1).toNat) 3 (26 + 2 * (Int32.toInt v1).toNat) := zf_walks (by omega)
  refine zf_gfi (pc' := 9) dX2_isHopeless_6 rfl rfl hx2.1 hx2.2.1 rfl ?_
  refine zf_ld (pc' := 10) (v := .inr (.inr (1, 21))) dX2_isHopeless_9 rfl (fun _ _ _ => rfl) rfl rfl rfl ?_
  refine zf_gfi (pc' := 13) dX2_isHopeless_10 rfl rfl (by decide) rfl rfl ?_
  refine zf_in (pc' := 14) (S' := [.inl ((m.1 (25 + 2 * (Int32.toInt v1).toNat) 10) + (m.1 21 3))]) dX2_isHopeless_13 rfl (fun _ _ _ => rfl) ?_
  refine zf_ld (pc' := 15) (v := .inl v1) dX2_isHopeless_14 rfl (fun _ _ _ => rfl) rfl rfl rfl ?_
  refine zf_in (pc' := 16) (S' := [.inl (((m.1 (25 + 2 * (Int32.toInt v1).toNat) 10) + (m.1 21 3)) - v1)]) dX2_isHopeless_15 rfl (fun _ _ _ => rfl) ?_
  refine zf_st (pc' := 17) (L2 := [some (.inr (.inr (1, 21))), some (.inl v1), some (.inl v2), some (.inl (((m.1 (25 + 2 * (Int32.toInt v1).toNat) 10) + (m.1 21 3)) - v1))]) dX2_isHopeless_16 rfl (fun _ _ _ => rfl) rfl rfl rfl rfl rfl rfl ?_
  refine zf_ld (pc' := 18) (v := .inl (((m.1 (25 + 2 * (Int32.toInt v1).toNat) 10) + (m.1 21 3)) - v1)) dX2_isHopeless_17 rfl (fun _ _ _ => rfl) rfl rfl rfl ?_
  refine zf_ld (pc' := 19) (v := .inr (.inr (1, 21))) dX2_isHopeless_18 rfl (fun _ _ _ => rfl) rfl rfl rfl ?_
  refine zf_gfi (pc' := 22) dX2_isHopeless_19 rfl rfl (by decide) rfl rfl ?_
  refine zf_icmp_lt (tgt := 41) (pc' := 25) dX2_isHopeless_22 rfl rfl (fun g => ?_) (fun g => ?_)
  · replace h := h.1 g
    refine zf_ic (v := 1) (pc' := 42) dX2_isHopeless_41 rfl rfl ?_
    refine zf_goto (tgt := 46) dX2_isHopeless_42 rfl ?_
    exact zf_rb (b := true) dX2_isHopeless_46 rfl h
  · replace h := h.2 g
    refine zf_ld (pc' := 26) (v := .inl (((m.1 (25 + 2 * (Int32.toInt v1).toNat) 10) + (m.1 21 3)) - v1)) dX2_isHopeless_25 rfl (fun _ _ _ => rfl) rfl rfl rfl ?_
    refine zf_ld (pc' := 27) (v := .inr (.inr (1, 21))) dX2_isHopeless_26 rfl (fun _ _ _ => rfl) rfl rfl rfl ?_
    refine zf_gfi (pc' := 30) dX2_isHopeless_27 rfl rfl (by decide) rfl rfl ?_
    refine zf_icmp_ne (tgt := 45) (pc' := 33) dX2_isHopeless_30 rfl rfl (fun g => ?_) (fun g => ?_)
    · replace h := h.1 g
      refine zf_ic (v := 0) (pc' := 46) dX2_isHopeless_45 rfl rfl ?_
      exact zf_rb (b := false) dX2_isHopeless_46 rfl h
    · replace h := h.2 g
      refine zf_ld (pc' := 34) (v := .inl v2) dX2_isHopeless_33 rfl (fun _ _ _ => rfl) rfl rfl rfl ?_
      refine zf_ld (pc' := 35) (v := .inr (.inr (1, 21))) dX2_isHopeless_34 rfl (fun _ _ _ => rfl) rfl rfl rfl ?_
      refine zf_gfi (pc' := 38) dX2_isHopeless_35 rfl rfl (by decide) rfl rfl ?_
      refine zf_icmp_le (tgt := 45) (pc' := 41) dX2_isHopeless_38 rfl rfl (fun g => ?_) (fun g => ?_)
      · replace h := h.1 g
        refine zf_ic (v := 0) (pc' := 46) dX2_isHopeless_45 rfl rfl ?_
        exact zf_rb (b := false) dX2_isHopeless_46 rfl h
      · replace h := h.2 g
        refine zf_ic (v := 1) (pc' := 42) dX2_isHopeless_41 rfl rfl ?_
        refine zf_goto (tgt := 46) dX2_isHopeless_42 rfl ?_
        exact zf_rb (b := true) dX2_isHopeless_46 rfl h
def zt_119 : zx_MT := (7, yX7_isBetter, cX7_isBetter, 4, (some FieldType.boolean), 4, 1)
theorem zm_119 : zx_m 119 = zt_119 := rfl
theorem dX7_isBetter_r0 : zdcP cX7_isBetter 0 [(.iload_n 0, 1), (.iload_n 2, 1), (.if_icmp .gt 13, 3), (.iload_n 0, 1), (.iload_n 2, 1), (.if_icmp .ne 12, 3), (.iload_n 1, 1), (.iload_n 3, 1), (.if_icmp .ge 7, 3), (.iconst 1, 1), (.goto 4, 3), (.iconst 0, 1), (.ireturn, 1)] := zdcA_ok (by decide +kernel)
theorem dX7_isBetter_0 : decode cX7_isBetter 0 = .ok (.iload_n 0, 1) := dX7_isBetter_r0.1
theorem dX7_isBetter_1 : decode cX7_isBetter 1 = .ok (.iload_n 2, 1) := dX7_isBetter_r0.2.1
theorem dX7_isBetter_2 : decode cX7_isBetter 2 = .ok (.if_icmp .gt 13, 3) := dX7_isBetter_r0.2.2.1
theorem dX7_isBetter_5 : decode cX7_isBetter 5 = .ok (.iload_n 0, 1) := dX7_isBetter_r0.2.2.2.1
theorem dX7_isBetter_6 : decode cX7_isBetter 6 = .ok (.iload_n 2, 1) := dX7_isBetter_r0.2.2.2.2.1
theorem dX7_isBetter_7 : decode cX7_isBetter 7 = .ok (.if_icmp .ne 12, 3) := dX7_isBetter_r0.2.2.2.2.2.1
theorem dX7_isBetter_10 : decode cX7_isBetter 10 = .ok (.iload_n 1, 1) := dX7_isBetter_r0.2.2.2.2.2.2.1
theorem dX7_isBetter_11 : decode cX7_isBetter 11 = .ok (.iload_n 3, 1) := dX7_isBetter_r0.2.2.2.2.2.2.2.1
theorem dX7_isBetter_12 : decode cX7_isBetter 12 = .ok (.if_icmp .ge 7, 3) := dX7_isBetter_r0.2.2.2.2.2.2.2.2.1
theorem dX7_isBetter_15 : decode cX7_isBetter 15 = .ok (.iconst 1, 1) := dX7_isBetter_r0.2.2.2.2.2.2.2.2.2.1
theorem dX7_isBetter_16 : decode cX7_isBetter 16 = .ok (.goto 4, 3) := dX7_isBetter_r0.2.2.2.2.2.2.2.2.2.2.1
theorem dX7_isBetter_19 : decode cX7_isBetter 19 = .ok (.iconst 0, 1) := dX7_isBetter_r0.2.2.2.2.2.2.2.2.2.2.2.1
theorem dX7_isBetter_20 : decode cX7_isBetter 20 = .ok (.ireturn, 1) := dX7_isBetter_r0.2.2.2.2.2.2.2.2.2.2.2.2.1
def wp_119 (v0 : Int32) (v1 : Int32) (v2 : Int32) (v3 : Int32) (m : zf_Me) (Q : Bool → zf_Me → Prop) : Prop := ((v0.toInt > v2.toInt → Q true m) ∧ (v0.toInt ≤ v2.toInt → ((¬ v0.toInt = v2.toInt → Q false m) ∧ (v0.toInt = v2.toInt → ((v1.toInt ≥ v3.toInt → Q false m) ∧ (v1.toInt < v3.toInt → Q true m))))))
theorem zr_119 {d : Nat} (hd : 0 ≤ d) {v0 : Int32} {v1 : Int32} {v2 : Int32} {v3 : Int32} {Q : Bool → zf_Me → Prop} {m : zf_Me} (h : wp_119 v0 v1 v2 v3 m Q) : zf_M d 119 [.inl v0, .inl v1, .inl v2, .inl v3] m (zf_B Q) := by
  unfold wp_119 at h
  refine zf_M_of (Nat.le_of_ble_eq_true rfl) zm_119 (L := [some (.inl v0), some (.inl v1), some (.inl v2), some (.inl v3)]) rfl ?_
  refine zf_ld (pc' := 1) (v := .inl v0) dX7_isBetter_0 rfl (fun _ _ _ => rfl) rfl rfl rfl ?_
  refine zf_ld (pc' := 2) (v := .inl v2) dX7_isBetter_1 rfl (fun _ _ _ => rfl) rfl rfl rfl ?_
  refine zf_icmp_gt (tgt := 15) (pc' := 5) dX7_isBetter_2 rfl rfl (fun g => ?_) (fun g => ?_)
  · replace h := h.1 g
    refine zf_ic (v := 1) (pc' := 16) dX7_isBetter_15 rfl rfl ?_
    refine zf_goto (tgt := 20) dX7_isBetter_16 rfl ?_
    exact zf_rb (b := true) dX7_isBetter_20 rfl h
  · replace h := h.2 g
    refine zf_ld (pc' := 6) (v := .inl v0) dX7_isBetter_5 rfl (fun _ _ _ => rfl) rfl rfl rfl ?_
    refine zf_ld (pc' := 7) (v := .inl v2) dX7_isBetter_6 rfl (fun _ _ _ => rfl) rfl rfl rfl ?_
    refine zf_icmp_ne (tgt := 19) (pc' := 10) dX7_isBetter_7 rfl rfl (fun g => ?_) (fun g => ?_)
    · replace h := h.1 g
      refine zf_ic (v := 0) (pc' := 20) dX7_isBetter_19 rfl rfl ?_
      exact zf_rb (b := false) dX7_isBetter_20 rfl h
    · replace h := h.2 g
      refine zf_ld (pc' := 11) (v := .inl v1) dX7_isBetter_10 rfl (fun _ _ _ => rfl) rfl rfl rfl ?_
      refine zf_ld (pc' := 12) (v := .inl v3) dX7_isBetter_11 rfl (fun _ _ _ => rfl) rfl rfl rfl ?_
      refine zf_icmp_ge (tgt := 19) (pc' := 15) dX7_isBetter_12 rfl rfl (fun g => ?_) (fun g => ?_)
      · replace h := h.1 g
        refine zf_ic (v := 0) (pc' := 20) dX7_isBetter_19 rfl rfl ?_
        exact zf_rb (b := false) dX7_isBetter_20 rfl h
      · replace h := h.2 g
        refine zf_ic (v := 1) (pc' := 16) dX7_isBetter_15 rfl rfl ?_
        refine zf_goto (tgt := 20) dX7_isBetter_16 rfl ?_
        exact zf_rb (b := true) dX7_isBetter_20 rfl h
def zt_17 : zx_MT := (2, yX2_offer, cX2_offer, 6, none, 2, 0)
theorem zm_17 : zx_m 17 = zt_17 := rfl
theorem dX2_offer_r0 : zdcP cX2_offer 0 [(.aload_n 0, 1), (.getfield 13, 3), (.iload_n 1, 1), (.aaload, 1), (.astore_n 3, 1), (.aload_n 3, 1), (.getfield 83, 3), (.iload_n 2, 1), (.aload_n 0, 1), (.getfield 31, 3), (.aload_n 0, 1), (.getfield 34, 3), (.invokestatic 86, 3), (.istore 4, 2), (.aload_n 3, 1), (.getfield 83, 3)] := zdcA_ok (by decide +kernel)
theorem dX2_offer_0 : decode cX2_offer 0 = .ok (.aload_n 0, 1) := dX2_offer_r0.1
theorem dX2_offer_1 : decode cX2_offer 1 = .ok (.getfield 13, 3) := dX2_offer_r0.2.1
theorem dX2_offer_4 : decode cX2_offer 4 = .ok (.iload_n 1, 1) := dX2_offer_r0.2.2.1
theorem dX2_offer_5 : decode cX2_offer 5 = .ok (.aaload, 1) := dX2_offer_r0.2.2.2.1
theorem dX2_offer_6 : decode cX2_offer 6 = .ok (.astore_n 3, 1) := dX2_offer_r0.2.2.2.2.1
theorem dX2_offer_7 : decode cX2_offer 7 = .ok (.aload_n 3, 1) := dX2_offer_r0.2.2.2.2.2.1
theorem dX2_offer_8 : decode cX2_offer 8 = .ok (.getfield 83, 3) := dX2_offer_r0.2.2.2.2.2.2.1
theorem dX2_offer_11 : decode cX2_offer 11 = .ok (.iload_n 2, 1) := dX2_offer_r0.2.2.2.2.2.2.2.1
theorem dX2_offer_12 : decode cX2_offer 12 = .ok (.aload_n 0, 1) := dX2_offer_r0.2.2.2.2.2.2.2.2.1
theorem dX2_offer_13 : decode cX2_offer 13 = .ok (.getfield 31, 3) := dX2_offer_r0.2.2.2.2.2.2.2.2.2.1
theorem dX2_offer_16 : decode cX2_offer 16 = .ok (.aload_n 0, 1) := dX2_offer_r0.2.2.2.2.2.2.2.2.2.2.1
theorem dX2_offer_17 : decode cX2_offer 17 = .ok (.getfield 34, 3) := dX2_offer_r0.2.2.2.2.2.2.2.2.2.2.2.1
theorem dX2_offer_20 : decode cX2_offer 20 = .ok (.invokestatic 86, 3) := dX2_offer_r0.2.2.2.2.2.2.2.2.2.2.2.2.1
theorem dX2_offer_23 : decode cX2_offer 23 = .ok (.istore 4, 2) := dX2_offer_r0.2.2.2.2.2.2.2.2.2.2.2.2.2.1
theorem dX2_offer_25 : decode cX2_offer 25 = .ok (.aload_n 3, 1) := dX2_offer_r0.2.2.2.2.2.2.2.2.2.2.2.2.2.2.1
theorem dX2_offer_26 : decode cX2_offer 26 = .ok (.getfield 83, 3) := dX2_offer_r0.2.2.2.2.2.2.2.2.2.2.2.2.2.2.2.1
theorem dX2_offer_r29 : zdcP cX2_offer 29 [(.aload_n 0, 1), (.getfield 31, 3), (.if_icmp .ne 26, 3), (.iload_n 2, 1), (.aload_n 0, 1), (.getfield 34, 3), (.if_icmp .ne 18, 3), (.aload_n 3, 1), (.getfield 90, 3), (.aload_n 0, 1), (.getfield 37, 3), (.if_icmp .ge 7, 3), (.iconst 1, 1), (.goto 4, 3), (.iconst 0, 1), (.istore 5, 2)] := zdcA_ok (by decide +kernel)
theorem dX2_offer_29 : decode cX2_offer 29 = .ok (.aload_n 0, 1) := dX2_offer_r29.1
theorem dX2_offer_30 : decode cX2_offer 30 = .ok (.getfield 31, 3) := dX2_offer_r29.2.1
theorem dX2_offer_33 : decode cX2_offer 33 = .ok (.if_icmp .ne 26, 3) := dX2_offer_r29.2.2.1
theorem dX2_offer_36 : decode cX2_offer 36 = .ok (.iload_n 2, 1) := dX2_offer_r29.2.2.2.1
theorem dX2_offer_37 : decode cX2_offer 37 = .ok (.aload_n 0, 1) := dX2_offer_r29.2.2.2.2.1
theorem dX2_offer_38 : decode cX2_offer 38 = .ok (.getfield 34, 3) := dX2_offer_r29.2.2.2.2.2.1
theorem dX2_offer_41 : decode cX2_offer 41 = .ok (.if_icmp .ne 18, 3) := dX2_offer_r29.2.2.2.2.2.2.1
theorem dX2_offer_44 : decode cX2_offer 44 = .ok (.aload_n 3, 1) := dX2_offer_r29.2.2.2.2.2.2.2.1
theorem dX2_offer_45 : decode cX2_offer 45 = .ok (.getfield 90, 3) := dX2_offer_r29.2.2.2.2.2.2.2.2.1
theorem dX2_offer_48 : decode cX2_offer 48 = .ok (.aload_n 0, 1) := dX2_offer_r29.2.2.2.2.2.2.2.2.2.1
theorem dX2_offer_49 : decode cX2_offer 49 = .ok (.getfield 37, 3) := dX2_offer_r29.2.2.2.2.2.2.2.2.2.2.1
theorem dX2_offer_52 : decode cX2_offer 52 = .ok (.if_icmp .ge 7, 3) := dX2_offer_r29.2.2.2.2.2.2.2.2.2.2.2.1
theorem dX2_offer_55 : decode cX2_offer 55 = .ok (.iconst 1, 1) := dX2_offer_r29.2.2.2.2.2.2.2.2.2.2.2.2.1
theorem dX2_offer_56 : decode cX2_offer 56 = .ok (.goto 4, 3) := dX2_offer_r29.2.2.2.2.2.2.2.2.2.2.2.2.2.1
theorem dX2_offer_59 : decode cX2_offer 59 = .ok (.iconst 0, 1) := dX2_offer_r29.2.2.2.2.2.2.2.2.2.2.2.2.2.2.1
theorem dX2_offer_60 : decode cX2_offer 60 = .ok (.istore 5, 2) := dX2_offer_r29.2.2.2.2.2.2.2.2.2.2.2.2.2.2.2.1
theorem dX2_offer_r62 : zdcP cX2_offer 62 [(.iload 4, 2), (.ifCond .ne 8, 3), (.iload 5, 2), (.ifCond .eq 43, 3), (.aload_n 0, 1), (.iload_n 1, 1), (.putfield 28, 3), (.aload_n 0, 1), (.aload_n 3, 1), (.getfield 83, 3), (.putfield 31, 3), (.aload_n 0, 1), (.iload_n 2, 1), (.putfield 34, 3), (.aload_n 0, 1), (.aload_n 3, 1)] := zdcA_ok (by decide +kernel)
theorem dX2_offer_62 : decode cX2_offer 62 = .ok (.iload 4, 2) := dX2_offer_r62.1
theorem dX2_offer_64 : decode cX2_offer 64 = .ok (.ifCond .ne 8, 3) := dX2_offer_r62.2.1
theorem dX2_offer_67 : decode cX2_offer 67 = .ok (.iload 5, 2) := dX2_offer_r62.2.2.1
theorem dX2_offer_69 : decode cX2_offer 69 = .ok (.ifCond .eq 43, 3) := dX2_offer_r62.2.2.2.1
theorem dX2_offer_72 : decode cX2_offer 72 = .ok (.aload_n 0, 1) := dX2_offer_r62.2.2.2.2.1
theorem dX2_offer_73 : decode cX2_offer 73 = .ok (.iload_n 1, 1) := dX2_offer_r62.2.2.2.2.2.1
theorem dX2_offer_74 : decode cX2_offer 74 = .ok (.putfield 28, 3) := dX2_offer_r62.2.2.2.2.2.2.1
theorem dX2_offer_77 : decode cX2_offer 77 = .ok (.aload_n 0, 1) := dX2_offer_r62.2.2.2.2.2.2.2.1
theorem dX2_offer_78 : decode cX2_offer 78 = .ok (.aload_n 3, 1) := dX2_offer_r62.2.2.2.2.2.2.2.2.1
theorem dX2_offer_79 : decode cX2_offer 79 = .ok (.getfield 83, 3) := dX2_offer_r62.2.2.2.2.2.2.2.2.2.1
theorem dX2_offer_82 : decode cX2_offer 82 = .ok (.putfield 31, 3) := dX2_offer_r62.2.2.2.2.2.2.2.2.2.2.1
theorem dX2_offer_85 : decode cX2_offer 85 = .ok (.aload_n 0, 1) := dX2_offer_r62.2.2.2.2.2.2.2.2.2.2.2.1
theorem dX2_offer_86 : decode cX2_offer 86 = .ok (.iload_n 2, 1) := dX2_offer_r62.2.2.2.2.2.2.2.2.2.2.2.2.1
theorem dX2_offer_87 : decode cX2_offer 87 = .ok (.putfield 34, 3) := dX2_offer_r62.2.2.2.2.2.2.2.2.2.2.2.2.2.1
theorem dX2_offer_90 : decode cX2_offer 90 = .ok (.aload_n 0, 1) := dX2_offer_r62.2.2.2.2.2.2.2.2.2.2.2.2.2.2.1
theorem dX2_offer_91 : decode cX2_offer 91 = .ok (.aload_n 3, 1) := dX2_offer_r62.2.2.2.2.2.2.2.2.2.2.2.2.2.2.2.1
theorem dX2_offer_r92 : zdcP cX2_offer 92 [(.getfield 90, 3), (.putfield 37, 3), (.aload_n 0, 1), (.getfield 17, 3), (.iconst 0, 1), (.aload_n 0, 1), (.getfield 21, 3), (.iconst 0, 1), (.iconst 4, 1), (.invokestatic 93, 3), (.return_, 1)] := zdcA_ok (by decide +kernel)
theorem dX2_offer_92 : decode cX2_offer 92 = .ok (.getfield 90, 3) := dX2_offer_r92.1
theorem dX2_offer_95 : decode cX2_offer 95 = .ok (.putfield 37, 3) := dX2_offer_r92.2.1
theorem dX2_offer_98 : decode cX2_offer 98 = .ok (.aload_n 0, 1) := dX2_offer_r92.2.2.1
theorem dX2_offer_99 : decode cX2_offer 99 = .ok (.getfield 17, 3) := dX2_offer_r92.2.2.2.1
theorem dX2_offer_102 : decode cX2_offer 102 = .ok (.iconst 0, 1) := dX2_offer_r92.2.2.2.2.1
theorem dX2_offer_103 : decode cX2_offer 103 = .ok (.aload_n 0, 1) := dX2_offer_r92.2.2.2.2.2.1
theorem dX2_offer_104 : decode cX2_offer 104 = .ok (.getfield 21, 3) := dX2_offer_r92.2.2.2.2.2.2.1
theorem dX2_offer_107 : decode cX2_offer 107 = .ok (.iconst 0, 1) := dX2_offer_r92.2.2.2.2.2.2.2.1
theorem dX2_offer_108 : decode cX2_offer 108 = .ok (.iconst 4, 1) := dX2_offer_r92.2.2.2.2.2.2.2.2.1
theorem dX2_offer_109 : decode cX2_offer 109 = .ok (.invokestatic 93, 3) := dX2_offer_r92.2.2.2.2.2.2.2.2.2.1
theorem dX2_offer_112 : decode cX2_offer 112 = .ok (.return_, 1) := dX2_offer_r92.2.2.2.2.2.2.2.2.2.2.1
def wq_17_72 (v1 : Int32) (v2 : Int32) (m : zf_Me) (Q : zf_Me → Prop) : Prop := (∀ m5, m5 = zf_u m 21 4 v1 → (∀ m7, m7 = zf_u m5 21 5 (m5.1 (25 + 2 * (Int32.toInt v1).toNat) 10) → (∀ m9, m9 = zf_u m7 21 6 v2 → (∀ m11, m11 = zf_u m9 21 7 (m9.1 (25 + 2 * (Int32.toInt v1).toNat) 11) → (∀ m13, m13 = zf_cp m11 23 24 0 0 4 → Q m13)))))
theorem zq_17_72 {d : Nat} (hd : 1 ≤ d) {v1 : Int32} {v2 : Int32} {Q : zf_Me → Prop} (hs3 : zf_walk (25 + 2 * (Int32.toInt v1).toNat) 3 (26 + 2 * (Int32.toInt v1).toNat)) {m : zf_Me} (h : wq_17_72 v1 v2 m Q) : zf_W none 0 0 d zt_17 72 [some (.inr (.inr (1, 21))), some (.inl v1), some (.inl v2), some (.inr (.inr (1, (25 + 2 * (Int32.toInt v1).toNat)))), none, none] [] m (zf_O Q) := by
  unfold wq_17_72 at h
  refine zf_ld (pc' := 73) (v := .inr (.inr (1, 21))) dX2_offer_72 rfl (fun _ _ _ => rfl) rfl rfl rfl ?_
  refine zf_ld (pc' := 74) (v := .inl v1) dX2_offer_73 rfl (fun _ _ _ => rfl) rfl rfl rfl ?_
  refine zf_pf (pc' := 77) dX2_offer_74 rfl rfl (by decide) rfl rfl rfl (fun m5 e6 => ?_)
  replace h := h m5 e6
  refine zf_ld (pc' := 78) (v := .inr (.inr (1, 21))) dX2_offer_77 rfl (fun _ _ _ => rfl) rfl rfl rfl ?_
  refine zf_ld (pc' := 79) (v := .inr (.inr (1, (25 + 2 * (Int32.toInt v1).toNat)))) dX2_offer_78 rfl (fun _ _ _ => rfl) rfl rfl rfl ?_
  refine zf_gfi (pc' := 82) dX2_offer_79 rfl rfl hs3.1 hs3.2.1 rfl ?_
  refine zf_pf (pc' := 85) dX2_offer_82 rfl rfl (by decide) rfl rfl rfl (fun m7 e8 => ?_)
  replace h := h m7 e8
  refine zf_ld (pc' := 86) (v := .inr (.inr (1, 21))) dX2_offer_85 rfl (fun _ _ _ => rfl) rfl rfl rfl ?_
  refine zf_ld (pc' := 87) (v := .inl v2) dX2_offer_86 rfl (fun _ _ _ => rfl) rfl rfl rfl ?_
  refine zf_pf (pc' := 90) dX2_offer_87 rfl rfl (by decide) rfl rfl rfl (fun m9 e10 => ?_)
  replace h := h m9 e10
  refine zf_ld (pc' := 91) (v := .inr (.inr (1, 21))) dX2_offer_90 rfl (fun _ _ _ => rfl) rfl rfl rfl ?_
  refine zf_ld (pc' := 92) (v := .inr (.inr (1, (25 + 2 * (Int32.toInt v1).toNat)))) dX2_offer_91 rfl (fun _ _ _ => rfl) rfl rfl rfl ?_
  refine zf_gfi (pc' := 95) dX2_offer_92 rfl rfl hs3.1 hs3.2.1 rfl ?_
  refine zf_pf (pc' := 98) dX2_offer_95 rfl rfl (by decide) rfl rfl rfl (fun m11 e12 => ?_)
  replace h := h m11 e12
  refine zf_ld (pc' := 99) (v := .inr (.inr (1, 21))) dX2_offer_98 rfl (fun _ _ _ => rfl) rfl rfl rfl ?_
  refine zf_gfr (pc' := 102) (b := 23) dX2_offer_99 rfl rfl (by decide) rfl rfl ?_
  refine zf_ic (v := 0) (pc' := 103) dX2_offer_102 rfl rfl ?_
  refine zf_ld (pc' := 104) (v := .inr (.inr (1, 21))) dX2_offer_103 rfl (fun _ _ _ => rfl) rfl rfl rfl ?_
  refine zf_gfr (pc' := 107) (b := 24) dX2_offer_104 rfl rfl (by decide) rfl rfl ?_
  refine zf_ic (v := 0) (pc' := 108) dX2_offer_107 rfl rfl ?_
  refine zf_ic (v := 4) (pc' := 109) dX2_offer_108 rfl rfl ?_
  refine zf_ac (pc' := 112) dX2_offer_109 rfl rfl (q0 := _) rfl (⟨by decide, rfl⟩ : zf_arr 23 4).1 (⟨by decide, rfl⟩ : zf_arr 24 4).1 (⟨by decide, rfl⟩ : zf_arr 23 4).2 (⟨by decide, rfl⟩ : zf_arr 24 4).2 rfl (by decide) (fun m13 e14 => ?_)
  replace h := h m13 e14
  exact zf_rv dX2_offer_112 rfl h
def wq_17_60 (v1 : Int32) (v2 : Int32) (v4 : Int32) (u0 : Int32) (m : zf_Me) (Q : zf_Me → Prop) : Prop := ((¬ v4.toInt = 0 → wq_17_72 v1 v2 m Q) ∧ (v4.toInt = 0 → ((u0.toInt = 0 → Q m) ∧ (¬ u0.toInt = 0 → wq_17_72 v1 v2 m Q))))
theorem zq_17_60 {d : Nat} (hd : 1 ≤ d) {v1 : Int32} {v2 : Int32} {Q : zf_Me → Prop} (hs3 : zf_walk (25 + 2 * (Int32.toInt v1).toNat) 3 (26 + 2 * (Int32.toInt v1).toNat)) {v4 : Int32} {u0 : Int32} {m : zf_Me} (h : wq_17_60 v1 v2 v4 u0 m Q) : zf_W none 0 0 d zt_17 60 [some (.inr (.inr (1, 21))), some (.inl v1), some (.inl v2), some (.inr (.inr (1, (25 + 2 * (Int32.toInt v1).toNat)))), some (.inl v4), none] [.inl u0] m (zf_O Q) := by
  unfold wq_17_60 at h
  refine zf_st (pc' := 62) (L2 := [some (.inr (.inr (1, 21))), some (.inl v1), some (.inl v2), some (.inr (.inr (1, (25 + 2 * (Int32.toInt v1).toNat)))), some (.inl v4), some (.inl u0)]) dX2_offer_60 rfl (fun _ _ _ => rfl) rfl rfl rfl rfl rfl rfl ?_
  refine zf_ld (pc' := 64) (v := .inl v4) dX2_offer_62 rfl (fun _ _ _ => rfl) rfl rfl rfl ?_
  refine zf_if_ne (tgt := 72) (pc' := 67) dX2_offer_64 rfl rfl (fun g => ?_) (fun g => ?_)
  · replace h := h.1 g
    exact zf_lo (zq_17_72 (by omega) hs3 h) ⟨rfl, rfl, rfl, rfl, trivial⟩
  · replace h := h.2 g
    refine zf_ld (pc' := 69) (v := .inl u0) dX2_offer_67 rfl (fun _ _ _ => rfl) rfl rfl rfl ?_
    refine zf_if_eq (tgt := 112) (pc' := 72) dX2_offer_69 rfl rfl (fun g => ?_) (fun g => ?_)
    · replace h := h.1 g
      exact zf_rv dX2_offer_112 rfl h
    · replace h := h.2 g
      exact zf_lo (zq_17_72 (by omega) hs3 h) ⟨rfl, rfl, rfl, rfl, trivial⟩
def wq_17_59 (v1 : Int32) (v2 : Int32) (v4 : Int32) (m : zf_Me) (Q : zf_Me → Prop) : Prop := wq_17_60 v1 v2 v4 0 m Q
theorem zq_17_59 {d : Nat} (hd : 1 ≤ d) {v1 : Int32} {v2 : Int32} {Q : zf_Me → Prop} (hs3 : zf_walk (25 + 2 * (Int32.toInt v1).toNat) 3 (26 + 2 * (Int32.toInt v1).toNat)) {v4 : Int32} {m : zf_Me} (h : wq_17_59 v1 v2 v4 m Q) : zf_W none 0 0 d zt_17 59 [some (.inr (.inr (1, 21))), some (.inl v1), some (.inl v2), some (.inr (.inr (1, (25 + 2 * (Int32.toInt v1).toNat)))), some (.inl v4), none] [] m (zf_O Q) := by
  unfold wq_17_59 at h
  refine zf_ic (v := 0) (pc' := 60) dX2_offer_59 rfl rfl ?_
  exact zf_lo (zq_17_60 (by omega) hs3 h) ⟨rfl, rfl, rfl, rfl, rfl, trivial⟩
def wp_17 (v1 : Int32) (v2 : Int32) (m : zf_Me) (Q : zf_Me → Prop) : Prop := ((0 ≤ (Int32.toInt v1) ∧ (Int32.toInt v1) < 5) ∧ wp_119 (m.1 (25 + 2 * (Int32.toInt v1).toNat) 10) v2 (m.1 21 5) (m.1 21 6) m (fun b3 m4 => ((¬ ((m4.1 (25 + 2 * (Int32.toInt v1).toNat) 10)).toInt = ((m4.1 21 5)).toInt → wq_17_59 v1 v2 (zb b3) m4 Q) ∧ (((m4.1 (25 + 2 * (Int32.toInt v1).toNat) 10)).toInt = ((m4.1 21 5)).toInt → ((¬ v2.toInt = ((m4.1 21 6)).toInt → wq_17_59 v1 v2 (zb b3) m4 Q) ∧ (v2.toInt = ((m4.1 21 6)).toInt → ((((m4.1 (25 + 2 * (Int32.toInt v1).toNat) 11)).toInt ≥ ((m4.1 21 7)).toInt → wq_17_59 v1 v2 (zb b3) m4 Q) ∧ (((m4.1 (25 + 2 * (Int32.toInt v1).toNat) 11)).toInt < ((m4.1 21 7)).toInt → wq_17_60 v1 v2 (zb b3) 1 m4 Q))))))))
theorem zr_17 {d : Nat} (hd : 1 ≤ d) {v1 : Int32} {v2 : Int32} {Q : zf_Me → Prop} {m : zf_Me} (h : wp_17 v1 v2 m Q) : zf_M d 17 [.inr (.inr (1, 21)), .inl v1, .inl v2] m (zf_O Q) := by
  obtain ⟨e, rfl⟩ : ∃ z, d = z + 1 := ⟨d - 1, by omega⟩
  unfold wp_17 at h
  refine zf_M_of (Nat.le_of_ble_eq_true rfl) zm_17 (L := [some (.inr (.inr (1, 21))), some (.inl v1), some (.inl v2), none, none, none]) rfl ?_
  refine zf_ld (pc' := 1) (v := .inr (.inr (1, 21))) dX2_offer_0 rfl (fun _ _ _ => rfl) rfl rfl rfl ?_
  refine zf_gfr (pc' := 4) (b := 22) dX2_offer_1 rfl rfl (by decide) rfl rfl ?_
  refine zf_ld (pc' := 5) (v := .inl v1) dX2_offer_4 rfl (fun _ _ _ => rfl) rfl rfl rfl ?_
  refine zf_aal (b := 25) (n := 5) (pc' := 6) dX2_offer_5 rfl (by decide) rfl (by decide) rfl h.1 zf_row22 ?_
  have hb1 := h.1
  replace h := h.2
  have hx2 : zf_walk (25 + 2 * (Int32.toInt v1).toNat) 3 (26 + 2 * (Int32.toInt v1).toNat) := zf_walks (by omega)
  refine zf_st (pc' := 7) (L2 := [some (.inr (.inr (1, 21))), some (.inl v1), some (.inl v2), some (.inr (.inr (1, (25 + 2 * (Int32.toInt v1).toNat)))), none, none]) dX2_offer_6 rfl (fun _ _ _ => rfl) rfl rfl rfl rfl rfl rfl ?_
  refine zf_ld (pc' := 8) (v := .inr (.inr (1, (25 + 2 * (Int32.toInt v1).toNat)))) dX2_offer_7 rfl (fun _ _ _ => rfl) rfl rfl rfl ?_
  refine zf_gfi (pc' := 11) dX2_offer_8 rfl rfl hx2.1 hx2.2.1 rfl ?_
  refine zf_ld (pc' := 12) (v := .inl v2) dX2_offer_11 rfl (fun _ _ _ => rfl) rfl rfl rfl ?_
  refine zf_ld (pc' := 13) (v := .inr (.inr (1, 21))) dX2_offer_12 rfl (fun _ _ _ => rfl) rfl rfl rfl ?_
  refine zf_gfi (pc' := 16) dX2_offer_13 rfl rfl (by decide) rfl rfl ?_
  refine zf_ld (pc' := 17) (v := .inr (.inr (1, 21))) dX2_offer_16 rfl (fun _ _ _ => rfl) rfl rfl rfl ?_
  refine zf_gfi (pc' := 20) dX2_offer_17 rfl rfl (by decide) rfl rfl ?_
  refine zf_is (k := 119) (pc' := 23) (r := []) dX2_offer_20 rfl rfl rfl rfl rfl (zr_119 (by omega) h) (zf_kB (fun b3 m4 h => ?_))
  refine zf_st (pc' := 25) (L2 := [some (.inr (.inr (1, 21))), some (.inl v1), some (.inl v2), some (.inr (.inr (1, (25 + 2 * (Int32.toInt v1).toNat)))), some (.inl (zb b3)), none]) dX2_offer_23 rfl (fun _ _ _ => rfl) rfl rfl rfl rfl rfl rfl ?_
  refine zf_ld (pc' := 26) (v := .inr (.inr (1, (25 + 2 * (Int32.toInt v1).toNat)))) dX2_offer_25 rfl (fun _ _ _ => rfl) rfl rfl rfl ?_
  refine zf_gfi (pc' := 29) dX2_offer_26 rfl rfl hx2.1 hx2.2.1 rfl ?_
  refine zf_ld (pc' := 30) (v := .inr (.inr (1, 21))) dX2_offer_29 rfl (fun _ _ _ => rfl) rfl rfl rfl ?_
  refine zf_gfi (pc' := 33) dX2_offer_30 rfl rfl (by decide) rfl rfl ?_
  refine zf_icmp_ne (tgt := 59) (pc' := 36) dX2_offer_33 rfl rfl (fun g => ?_) (fun g => ?_)
  · replace h := h.1 g
    exact zf_lo (zq_17_59 (by omega) hx2 h) ⟨rfl, rfl, rfl, rfl, rfl, trivial⟩
  · replace h := h.2 g
    refine zf_ld (pc' := 37) (v := .inl v2) dX2_offer_36 rfl (fun _ _ _ => rfl) rfl rfl rfl ?_
    refine zf_ld (pc' := 38) (v := .inr (.inr (1, 21))) dX2_offer_37 rfl (fun _ _ _ => rfl) rfl rfl rfl ?_
    refine zf_gfi (pc' := 41) dX2_offer_38 rfl rfl (by decide) rfl rfl ?_
    refine zf_icmp_ne (tgt := 59) (pc' := 44) dX2_offer_41 rfl rfl (fun g => ?_) (fun g => ?_)
    · replace h := h.1 g
      exact zf_lo (zq_17_59 (by omega) hx2 h) ⟨rfl, rfl, rfl, rfl, rfl, trivial⟩
    · replace h := h.2 g
      refine zf_ld (pc' := 45) (v := .inr (.inr (1, (25 + 2 * (Int32.toInt v1).toNat)))) dX2_offer_44 rfl (fun _ _ _ => rfl) rfl rfl rfl ?_
      refine zf_gfi (pc' := 48) dX2_offer_45 rfl rfl hx2.1 hx2.2.1 rfl ?_
      refine zf_ld (pc' := 49) (v := .inr (.inr (1, 21))) dX2_offer_48 rfl (fun _ _ _ => rfl) rfl rfl rfl ?_
      refine zf_gfi (pc' := 52) dX2_offer_49 rfl rfl (by decide) rfl rfl ?_
      refine zf_icmp_ge (tgt := 59) (pc' := 55) dX2_offer_52 rfl rfl (fun g => ?_) (fun g => ?_)
      · replace h := h.1 g
        exact zf_lo (zq_17_59 (by omega) hx2 h) ⟨rfl, rfl, rfl, rfl, rfl, trivial⟩
      · replace h := h.2 g
        refine zf_ic (v := 1) (pc' := 56) dX2_offer_55 rfl rfl ?_
        refine zf_goto (tgt := 60) dX2_offer_56 rfl ?_
        exact zf_lo (zq_17_60 (by omega) hx2 h) ⟨rfl, rfl, rfl, rfl, rfl, trivial⟩
end
