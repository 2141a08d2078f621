/-! part 45: methods 210..: laid by wip/flat/dec.py -/
def zt_210 : zx_MT := (8, yX8_status, cX8_status, 2, (some FieldType.int), 1, 0)
theorem zm_210 : zx_m 210 = zt_210 := rfl
theorem dX8_status_r0 : zdcP cX8_status 0 [(.iload_n 1, 1), (.bipush 11, 2), (.if_icmp .lt 19, 3), (.iload_n 1, 1), (.bipush 17, 2), (.if_icmp .gt 13, 3), (.aload_n 0, 1), (.getfield 37, 3), (.iload_n 1, 1), (.bipush 10, 2), (.isub, 1), (.iaload, 1), (.ireturn, 1), (.iload_n 1, 1), (.bipush 6, 2), (.if_icmp .lt 18, 3)] := zdcA_ok (by decide +kernel)
theorem dX8_status_0 : decode cX8_status 0 = .ok (.iload_n 1, 1) := dX8_status_r0.1
theorem dX8_status_1 : decode cX8_status 1 = .ok (.bipush 11, 2) := dX8_status_r0.2.1
theorem dX8_status_3 : decode cX8_status 3 = .ok (.if_icmp .lt 19, 3) := dX8_status_r0.2.2.1
theorem dX8_status_6 : decode cX8_status 6 = .ok (.iload_n 1, 1) := dX8_status_r0.2.2.2.1
theorem dX8_status_7 : decode cX8_status 7 = .ok (.bipush 17, 2) := dX8_status_r0.2.2.2.2.1
theorem dX8_status_9 : decode cX8_status 9 = .ok (.if_icmp .gt 13, 3) := dX8_status_r0.2.2.2.2.2.1
theorem dX8_status_12 : decode cX8_status 12 = .ok (.aload_n 0, 1) := dX8_status_r0.2.2.2.2.2.2.1
theorem dX8_status_13 : decode cX8_status 13 = .ok (.getfield 37, 3) := dX8_status_r0.2.2.2.2.2.2.2.1
theorem dX8_status_16 : decode cX8_status 16 = .ok (.iload_n 1, 1) := dX8_status_r0.2.2.2.2.2.2.2.2.1
theorem dX8_status_17 : decode cX8_status 17 = .ok (.bipush 10, 2) := dX8_status_r0.2.2.2.2.2.2.2.2.2.1
theorem dX8_status_19 : decode cX8_status 19 = .ok (.isub, 1) := dX8_status_r0.2.2.2.2.2.2.2.2.2.2.1
theorem dX8_status_20 : decode cX8_status 20 = .ok (.iaload, 1) := dX8_status_r0.2.2.2.2.2.2.2.2.2.2.2.1
theorem dX8_status_21 : decode cX8_status 21 = .ok (.ireturn, 1) := dX8_status_r0.2.2.2.2.2.2.2.2.2.2.2.2.1
theorem dX8_status_22 : decode cX8_status 22 = .ok (.iload_n 1, 1) := dX8_status_r0.2.2.2.2.2.2.2.2.2.2.2.2.2.1
theorem dX8_status_23 : decode cX8_status 23 = .ok (.bipush 6, 2) := dX8_status_r0.2.2.2.2.2.2.2.2.2.2.2.2.2.2.1
theorem dX8_status_25 : decode cX8_status 25 = .ok (.if_icmp .lt 18, 3) := dX8_status_r0.2.2.2.2.2.2.2.2.2.2.2.2.2.2.2.1
theorem dX8_status_r28 : zdcP cX8_status 28 [(.iload_n 1, 1), (.bipush 10, 2), (.if_icmp .gt 12, 3), (.aload_n 0, 1), (.iload_n 1, 1), (.bipush 6, 2), (.isub, 1), (.invokevirtual 145, 3), (.ireturn, 1), (.iload_n 1, 1)] := zdcA_ok (by decide +kernel)
theorem dX8_status_28 : decode cX8_status 28 = .ok (.iload_n 1, 1) := dX8_status_r28.1
theorem dX8_status_29 : decode cX8_status 29 = .ok (.bipush 10, 2) := dX8_status_r28.2.1
theorem dX8_status_31 : decode cX8_status 31 = .ok (.if_icmp .gt 12, 3) := dX8_status_r28.2.2.1
theorem dX8_status_34 : decode cX8_status 34 = .ok (.aload_n 0, 1) := dX8_status_r28.2.2.2.1
theorem dX8_status_35 : decode cX8_status 35 = .ok (.iload_n 1, 1) := dX8_status_r28.2.2.2.2.1
theorem dX8_status_36 : decode cX8_status 36 = .ok (.bipush 6, 2) := dX8_status_r28.2.2.2.2.2.1
theorem dX8_status_38 : decode cX8_status 38 = .ok (.isub, 1) := dX8_status_r28.2.2.2.2.2.2.1
theorem dX8_status_39 : decode cX8_status 39 = .ok (.invokevirtual 145, 3) := dX8_status_r28.2.2.2.2.2.2.2.1
theorem dX8_status_42 : decode cX8_status 42 = .ok (.ireturn, 1) := dX8_status_r28.2.2.2.2.2.2.2.2.1
theorem dX8_status_43 : decode cX8_status 43 = .ok (.iload_n 1, 1) := dX8_status_r28.2.2.2.2.2.2.2.2.2.1
theorem dX8_status_44 : decode cX8_status 44 = .ok (.tableswitch 153 0 20 #[100, 105, 110, 115, 120, 125, 153, 153, 153, 153, 153, 153, 153, 153, 153, 153, 153, 153, 130, 135, 140], 100) := by decide +kernel
theorem dX8_status_r144 : zdcP cX8_status 144 [(.aload_n 0, 1), (.getfield 105, 3), (.ireturn, 1), (.aload_n 0, 1), (.getfield 108, 3), (.ireturn, 1), (.aload_n 0, 1), (.getfield 207, 3), (.ireturn, 1), (.aload_n 0, 1), (.getfield 210, 3), (.ireturn, 1), (.aload_n 0, 1), (.getfield 13, 3), (.ireturn, 1), (.aload_n 0, 1)] := zdcA_ok (by decide +kernel)
theorem dX8_status_144 : decode cX8_status 144 = .ok (.aload_n 0, 1) := dX8_status_r144.1
theorem dX8_status_145 : decode cX8_status 145 = .ok (.getfield 105, 3) := dX8_status_r144.2.1
theorem dX8_status_148 : decode cX8_status 148 = .ok (.ireturn, 1) := dX8_status_r144.2.2.1
theorem dX8_status_149 : decode cX8_status 149 = .ok (.aload_n 0, 1) := dX8_status_r144.2.2.2.1
theorem dX8_status_150 : decode cX8_status 150 = .ok (.getfield 108, 3) := dX8_status_r144.2.2.2.2.1
theorem dX8_status_153 : decode cX8_status 153 = .ok (.ireturn, 1) := dX8_status_r144.2.2.2.2.2.1
theorem dX8_status_154 : decode cX8_status 154 = .ok (.aload_n 0, 1) := dX8_status_r144.2.2.2.2.2.2.1
theorem dX8_status_155 : decode cX8_status 155 = .ok (.getfield 207, 3) := dX8_status_r144.2.2.2.2.2.2.2.1
theorem dX8_status_158 : decode cX8_status 158 = .ok (.ireturn, 1) := dX8_status_r144.2.2.2.2.2.2.2.2.1
theorem dX8_status_159 : decode cX8_status 159 = .ok (.aload_n 0, 1) := dX8_status_r144.2.2.2.2.2.2.2.2.2.1
theorem dX8_status_160 : decode cX8_status 160 = .ok (.getfield 210, 3) := dX8_status_r144.2.2.2.2.2.2.2.2.2.2.1
theorem dX8_status_163 : decode cX8_status 163 = .ok (.ireturn, 1) := dX8_status_r144.2.2.2.2.2.2.2.2.2.2.2.1
theorem dX8_status_164 : decode cX8_status 164 = .ok (.aload_n 0, 1) := dX8_status_r144.2.2.2.2.2.2.2.2.2.2.2.2.1
theorem dX8_status_165 : decode cX8_status 165 = .ok (.getfield 13, 3) := dX8_status_r144.2.2.2.2.2.2.2.2.2.2.2.2.2.1
theorem dX8_status_168 : decode cX8_status 168 = .ok (.ireturn, 1) := dX8_status_r144.2.2.2.2.2.2.2.2.2.2.2.2.2.2.1
theorem dX8_status_169 : decode cX8_status 169 = .ok (.aload_n 0, 1) := dX8_status_r144.2.2.2.2.2.2.2.2.2.2.2.2.2.2.2.1
theorem dX8_status_r170 : zdcP cX8_status 170 [(.getfield 204, 3), (.ireturn, 1), (.aload_n 0, 1), (.getfield 31, 3), (.ireturn, 1), (.aload_n 0, 1), (.getfield 303, 3), (.ireturn, 1), (.aload_n 0, 1), (.invokevirtual 122, 3), (.ifCond .eq 7, 3), (.iconst 1, 1), (.goto 4, 3), (.iconst 0, 1), (.ireturn, 1), (.iconst (-1), 1)] := zdcA_ok (by decide +kernel)
theorem dX8_status_170 : decode cX8_status 170 = .ok (.getfield 204, 3) := dX8_status_r170.1
theorem dX8_status_173 : decode cX8_status 173 = .ok (.ireturn, 1) := dX8_status_r170.2.1
theorem dX8_status_174 : decode cX8_status 174 = .ok (.aload_n 0, 1) := dX8_status_r170.2.2.1
theorem dX8_status_175 : decode cX8_status 175 = .ok (.getfield 31, 3) := dX8_status_r170.2.2.2.1
theorem dX8_status_178 : decode cX8_status 178 = .ok (.ireturn, 1) := dX8_status_r170.2.2.2.2.1
theorem dX8_status_179 : decode cX8_status 179 = .ok (.aload_n 0, 1) := dX8_status_r170.2.2.2.2.2.1
theorem dX8_status_180 : decode cX8_status 180 = .ok (.getfield 303, 3) := dX8_status_r170.2.2.2.2.2.2.1
theorem dX8_status_183 : decode cX8_status 183 = .ok (.ireturn, 1) := dX8_status_r170.2.2.2.2.2.2.2.1
theorem dX8_status_184 : decode cX8_status 184 = .ok (.aload_n 0, 1) := dX8_status_r170.2.2.2.2.2.2.2.2.1
theorem dX8_status_185 : decode cX8_status 185 = .ok (.invokevirtual 122, 3) := dX8_status_r170.2.2.2.2.2.2.2.2.2.1
theorem dX8_status_188 : decode cX8_status 188 = .ok (.ifCond .eq 7, 3) := dX8_status_r170.2.2.2.2.2.2.2.2.2.2.1
theorem dX8_status_191 : decode cX8_status 191 = .ok (.iconst 1, 1) := dX8_status_r170.2.2.2.2.2.2.2.2.2.2.2.1
theorem dX8_status_192 : decode cX8_status 192 = .ok (.goto 4, 3) := dX8_status_r170.2.2.2.2.2.2.2.2.2.2.2.2.1
theorem dX8_status_195 : decode cX8_status 195 = .ok (.iconst 0, 1) := dX8_status_r170.2.2.2.2.2.2.2.2.2.2.2.2.2.1
theorem dX8_status_196 : decode cX8_status 196 = .ok (.ireturn, 1) := dX8_status_r170.2.2.2.2.2.2.2.2.2.2.2.2.2.2.1
theorem dX8_status_197 : decode cX8_status 197 = .ok (.iconst (-1), 1) := dX8_status_r170.2.2.2.2.2.2.2.2.2.2.2.2.2.2.2.1
theorem dX8_status_198 : decode cX8_status 198 = .ok (.ireturn, 1) := zdc_ok (by decide +kernel)
def wq_210_43 (v1 : Int32) (m : zf_Me) (Q : Int32 → zf_Me → Prop) : Prop := (((v1.toInt < 0 ∨ v1.toInt > 20) → Q (-1) m) ∧ (v1.toInt = 0 → Q (m.1 63 1) m) ∧ (v1.toInt = 1 → Q (m.1 63 0) m) ∧ (v1.toInt = 2 → Q (m.1 63 10) m) ∧ (v1.toInt = 3 → Q (m.1 63 11) m) ∧ (v1.toInt = 4 → Q (m.1 63 3) m) ∧ (v1.toInt = 5 → Q (m.1 63 6) m) ∧ (v1.toInt = 6 → Q (-1) m) ∧ (v1.toInt = 7 → Q (-1) m) ∧ (v1.toInt = 8 → Q (-1) m) ∧ (v1.toInt = 9 → Q (-1) m) ∧ (v1.toInt = 10 → Q (-1) m) ∧ (v1.toInt = 11 → Q (-1) m) ∧ (v1.toInt = 12 → Q (-1) m) ∧ (v1.toInt = 13 → Q (-1) m) ∧ (v1.toInt = 14 → Q (-1) m) ∧ (v1.toInt = 15 → Q (-1) m) ∧ (v1.toInt = 16 → Q (-1) m) ∧ (v1.toInt = 17 → Q (-1) m) ∧ (v1.toInt = 18 → Q (m.1 63 12) m) ∧ (v1.toInt = 19 → Q (m.1 63 51) m) ∧ (v1.toInt = 20 → wp_164 m (fun b1 m2 => ((b1 = false → Q 0 m2) ∧ (b1 = true → Q 1 m2)))))
theorem zq_210_43 {d : Nat} (hd : 1 ≤ d) {v1 : Int32} {Q : Int32 → zf_Me → Prop} {m : zf_Me} (h : wq_210_43 v1 m Q) : zf_W none 0 0 d zt_210 43 [some (.inr (.inr (1, 63))), some (.inl v1)] [] m (zf_I Q) := by
  obtain ⟨e, rfl⟩ : ∃ z, d = z + 1 := ⟨d - 1, by omega⟩
  unfold wq_210_43 at h
  refine zf_ld (pc' := 44) (v := .inl v1) dX8_status_43 rfl (fun _ _ _ => rfl) rfl rfl rfl ?_
  refine zf_tsc (tgd := 197) dX8_status_44 rfl [144, 149, 154, 159, 164, 169, 197, 197, 197, 197, 197, 197, 197, 197, 197, 197, 197, 197, 174, 179, 184] (by decide) (by decide) (fun g => ?_) (zl_cons (fun g => ?_) (zl_cons (fun g => ?_) (zl_cons (fun g => ?_) (zl_cons (fun g => ?_) (zl_cons (fun g => ?_) (zl_cons (fun g => ?_) (zl_cons (fun g => ?_) (zl_cons (fun g => ?_) (zl_cons (fun g => ?_) (zl_cons (fun g => ?_) (zl_cons (fun g => ?_) (zl_cons (fun g => ?_) (zl_cons (fun g => ?_) (zl_cons (fun g => ?_) (zl_cons (fun g => ?_) (zl_cons (fun g => ?_) (zl_cons (fun g => ?_) (zl_cons (fun g => ?_) (zl_cons (fun g => ?_) (zl_cons (fun g => ?_) (zl_cons (fun g => ?_) (zl_nil))))))))))))))))))))))
  · replace h := h.1 (by omega)
    refine zf_ic (v := (-1)) (pc' := 198) dX8_status_197 rfl rfl ?_
    exact zf_ri dX8_status_198 rfl h
  · replace h := h.2.1 (by omega)
    refine zf_ld (pc' := 145) (v := .inr (.inr (1, 63))) dX8_status_144 rfl (fun _ _ _ => rfl) rfl rfl rfl ?_
    refine zf_gfi (pc' := 148) dX8_status_145 rfl rfl (by decide) rfl rfl ?_
    exact zf_ri dX8_status_148 rfl h
  · replace h := h.2.2.1 (by omega)
    refine zf_ld (pc' := 150) (v := .inr (.inr (1, 63))) dX8_status_149 rfl (fun _ _ _ => rfl) rfl rfl rfl ?_
    refine zf_gfi (pc' := 153) dX8_status_150 rfl rfl (by decide) rfl rfl ?_
    exact zf_ri dX8_status_153 rfl h
  · replace h := h.2.2.2.1 (by omega)
    refine zf_ld (pc' := 155) (v := .inr (.inr (1, 63))) dX8_status_154 rfl (fun _ _ _ => rfl) rfl rfl rfl ?_
    refine zf_gfi (pc' := 158) dX8_status_155 rfl rfl (by decide) rfl rfl ?_
    exact zf_ri dX8_status_158 rfl h
  · replace h := h.2.2.2.2.1 (by omega)
    refine zf_ld (pc' := 160) (v := .inr (.inr (1, 63))) dX8_status_159 rfl (fun _ _ _ => rfl) rfl rfl rfl ?_
    refine zf_gfi (pc' := 163) dX8_status_160 rfl rfl (by decide) rfl rfl ?_
    exact zf_ri dX8_status_163 rfl h
  · replace h := h.2.2.2.2.2.1 (by omega)
    refine zf_ld (pc' := 165) (v := .inr (.inr (1, 63))) dX8_status_164 rfl (fun _ _ _ => rfl) rfl rfl rfl ?_
    refine zf_gfi (pc' := 168) dX8_status_165 rfl rfl (by decide) rfl rfl ?_
    exact zf_ri dX8_status_168 rfl h
  · replace h := h.2.2.2.2.2.2.1 (by omega)
    refine zf_ld (pc' := 170) (v := .inr (.inr (1, 63))) dX8_status_169 rfl (fun _ _ _ => rfl) rfl rfl rfl ?_
    refine zf_gfi (pc' := 173) dX8_status_170 rfl rfl (by decide) rfl rfl ?_
    exact zf_ri dX8_status_173 rfl h
  · replace h := h.2.2.2.2.2.2.2.1 (by omega)
    refine zf_ic (v := (-1)) (pc' := 198) dX8_status_197 rfl rfl ?_
    exact zf_ri dX8_status_198 rfl h
  · replace h := h.2.2.2.2.2.2.2.2.1 (by omega)
    refine zf_ic (v := (-1)) (pc' := 198) dX8_status_197 rfl rfl ?_
    exact zf_ri dX8_status_198 rfl h
  · replace h := h.2.2.2.2.2.2.2.2.2.1 (by omega)
    refine zf_ic (v := (-1)) (pc' := 198) dX8_status_197 rfl rfl ?_
    exact zf_ri dX8_status_198 rfl h
  · replace h := h.2.2.2.2.2.2.2.2.2.2.1 (by omega)
    refine zf_ic (v := (-1)) (pc' := 198) dX8_status_197 rfl rfl ?_
    exact zf_ri dX8_status_198 rfl h
  · replace h := h.2.2.2.2.2.2.2.2.2.2.2.1 (by omega)
    refine zf_ic (v := (-1)) (pc' := 198) dX8_status_197 rfl rfl ?_
    exact zf_ri dX8_status_198 rfl h
  · replace h := h.2.2.2.2.2.2.2.2.2.2.2.2.1 (by omega)
    refine zf_ic (v := (-1)) (pc' := 198) dX8_status_197 rfl rfl ?_
    exact zf_ri dX8_status_198 rfl h
  · replace h := h.2.2.2.2.2.2.2.2.2.2.2.2.2.1 (by omega)
    refine zf_ic (v := (-1)) (pc' := 198) dX8_status_197 rfl rfl ?_
    exact zf_ri dX8_status_198 rfl h
  · replace h := h.2.2.2.2.2.2.2.2.2.2.2.2.2.2.1 (by omega)
    refine zf_ic (v := (-1)) (pc' := 198) dX8_status_197 rfl rfl ?_
    exact zf_ri dX8_status_198 rfl h
  · replace h := h.2.2.2.2.2.2.2.2.2.2.2.2.2.2.2.1 (by omega)
    refine zf_ic (v := (-1)) (pc' := 198) dX8_status_197 rfl rfl ?_
    exact zf_ri dX8_status_198 rfl h
  · replace h := h.2.2.2.2.2.2.2.2.2.2.2.2.2.2.2.2.1 (by omega)
    refine zf_ic (v := (-1)) (pc' := 198) dX8_status_197 rfl rfl ?_
    exact zf_ri dX8_status_198 rfl h
  · replace h := h.2.2.2.2.2.2.2.2.2.2.2.2.2.2.2.2.2.1 (by omega)
    refine zf_ic (v := (-1)) (pc' := 198) dX8_status_197 rfl rfl ?_
    exact zf_ri dX8_status_198 rfl h
  · replace h := h.2.2.2.2.2.2.2.2.2.2.2.2.2.2.2.2.2.2.1 (by omega)
    refine zf_ic (v := (-1)) (pc' := 198) dX8_status_197 rfl rfl ?_
    exact zf_ri dX8_status_198 rfl h
  · replace h := h.2.2.2.2.2.2.2.2.2.2.2.2.2.2.2.2.2.2.2.1 (by omega)
    refine zf_ld (pc' := 175) (v := .inr (.inr (1, 63))) dX8_status_174 rfl (fun _ _ _ => rfl) rfl rfl rfl ?_
    refine zf_gfi (pc' := 178) dX8_status_175 rfl rfl (by decide) rfl rfl ?_
    exact zf_ri dX8_status_178 rfl h
  · replace h := h.2.2.2.2.2.2.2.2.2.2.2.2.2.2.2.2.2.2.2.2.1 (by omega)
    refine zf_ld (pc' := 180) (v := .inr (.inr (1, 63))) dX8_status_179 rfl (fun _ _ _ => rfl) rfl rfl rfl ?_
    refine zf_gfi (pc' := 183) dX8_status_180 rfl rfl (by decide) rfl rfl ?_
    exact zf_ri dX8_status_183 rfl h
  · replace h := h.2.2.2.2.2.2.2.2.2.2.2.2.2.2.2.2.2.2.2.2.2 (by omega)
    refine zf_ld (pc' := 185) (v := .inr (.inr (1, 63))) dX8_status_184 rfl (fun _ _ _ => rfl) rfl rfl rfl ?_
    refine zf_iv (k := 164) (pc' := 188) (r := []) dX8_status_185 rfl rfl rfl rfl (by decide) rfl rfl rfl (zr_164 (by omega) h) (zf_kB (fun b1 m2 h => ?_))
    refine zf_ib_eq (tgt := 195) (pc' := 191) dX8_status_188 rfl rfl (fun g => ?_) (fun g => ?_)
    · replace h := h.1 g
      refine zf_ic (v := 0) (pc' := 196) dX8_status_195 rfl rfl ?_
      exact zf_ri dX8_status_196 rfl h
    · replace h := h.2 g
      refine zf_ic (v := 1) (pc' := 192) dX8_status_191 rfl rfl ?_
      refine zf_goto (tgt := 196) dX8_status_192 rfl ?_
      exact zf_ri dX8_status_196 rfl h
def wq_210_22 (v1 : Int32) (m : zf_Me) (Q : Int32 → zf_Me → Prop) : Prop := ((v1.toInt < 6 → wq_210_43 v1 m Q) ∧ (v1.toInt ≥ 6 → ((v1.toInt > 10 → wq_210_43 v1 m Q) ∧ (v1.toInt ≤ 10 → wp_147 (v1 - 6) m (fun x3 m4 => Q x3 m4)))))
theorem zq_210_22 {d : Nat} (hd : 1 ≤ d) {v1 : Int32} {Q : Int32 → zf_Me → Prop} {m : zf_Me} (h : wq_210_22 v1 m Q) : zf_W none 0 0 d zt_210 22 [some (.inr (.inr (1, 63))), some (.inl v1)] [] m (zf_I Q) := by
  obtain ⟨e, rfl⟩ : ∃ z, d = z + 1 := ⟨d - 1, by omega⟩
  unfold wq_210_22 at h
  refine zf_ld (pc' := 23) (v := .inl v1) dX8_status_22 rfl (fun _ _ _ => rfl) rfl rfl rfl ?_
  refine zf_bi (v := 6) (pc' := 25) dX8_status_23 rfl rfl ?_
  refine zf_icmp_lt (tgt := 43) (pc' := 28) dX8_status_25 rfl rfl (fun g => ?_) (fun g => ?_)
  · replace h := h.1 g
    exact zf_lo (zq_210_43 (by omega) h) ⟨rfl, rfl, trivial⟩
  · replace h := h.2 g
    refine zf_ld (pc' := 29) (v := .inl v1) dX8_status_28 rfl (fun _ _ _ => rfl) rfl rfl rfl ?_
    refine zf_bi (v := 10) (pc' := 31) dX8_status_29 rfl rfl ?_
    refine zf_icmp_gt (tgt := 43) (pc' := 34) dX8_status_31 rfl rfl (fun g => ?_) (fun g => ?_)
    · replace h := h.1 g
      exact zf_lo (zq_210_43 (by omega) h) ⟨rfl, rfl, trivial⟩
    · replace h := h.2 g
      refine zf_ld (pc' := 35) (v := .inr (.inr (1, 63))) dX8_status_34 rfl (fun _ _ _ => rfl) rfl rfl rfl ?_
      refine zf_ld (pc' := 36) (v := .inl v1) dX8_status_35 rfl (fun _ _ _ => rfl) rfl rfl rfl ?_
      refine zf_bi (v := 6) (pc' := 38) dX8_status_36 rfl rfl ?_
      refine zf_in (pc' := 39) (S' := [.inl (v1 - 6), .inr (.inr (1, 63))]) dX8_status_38 rfl (fun _ _ _ => rfl) ?_
      refine zf_iv (k := 147) (pc' := 42) (r := []) dX8_status_39 rfl rfl rfl rfl (by decide) rfl rfl rfl (zr_147 (by omega) h) (zf_kI (fun x3 m4 h => ?_))
      exact zf_ri dX8_status_42 rfl h
def wp_210 (v1 : Int32) (m : zf_Me) (Q : Int32 → zf_Me → Prop) : Prop := ((v1.toInt < 11 → wq_210_22 v1 m Q) ∧ (v1.toInt ≥ 11 → ((v1.toInt > 17 → wq_210_22 v1 m Q) ∧ (v1.toInt ≤ 17 → ((0 ≤ (Int32.toInt (v1 - 10)) ∧ (Int32.toInt (v1 - 10)) < (8 : Int)) ∧ Q (m.1 64 (Int32.toInt (v1 - 10)).toNat) m)))))
theorem zr_210 {d : Nat} (hd : 1 ≤ d) {v1 : Int32} {Q : Int32 → zf_Me → Prop} {m : zf_Me} (h : wp_210 v1 m Q) : zf_M d 210 [.inr (.inr (1, 63)), .inl v1] m (zf_I Q) := by
  unfold wp_210 at h
  refine zf_M_of (Nat.le_of_ble_eq_true rfl) zm_210 (L := [some (.inr (.inr (1, 63))), some (.inl v1)]) rfl ?_
  refine zf_ld (pc' := 1) (v := .inl v1) dX8_status_0 rfl (fun _ _ _ => rfl) rfl rfl rfl ?_
  refine zf_bi (v := 11) (pc' := 3) dX8_status_1 rfl rfl ?_
  refine zf_icmp_lt (tgt := 22) (pc' := 6) dX8_status_3 rfl rfl (fun g => ?_) (fun g => ?_)
  · replace h := h.1 g
    exact zf_lo (zq_210_22 (by omega) h) ⟨rfl, rfl, trivial⟩
  · replace h := h.2 g
    refine zf_ld (pc' := 7) (v := .inl v1) dX8_status_6 rfl (fun _ _ _ => rfl) rfl rfl rfl ?_
    refine zf_bi (v := 17) (pc' := 9) dX8_status_7 rfl rfl ?_
    refine zf_icmp_gt (tgt := 22) (pc' := 12) dX8_status_9 rfl rfl (fun g => ?_) (fun g => ?_)
    · replace h := h.1 g
      exact zf_lo (zq_210_22 (by omega) h) ⟨rfl, rfl, trivial⟩
    · replace h := h.2 g
      refine zf_ld (pc' := 13) (v := .inr (.inr (1, 63))) dX8_status_12 rfl (fun _ _ _ => rfl) rfl rfl rfl ?_
      refine zf_gfr (pc' := 16) (b := 64) dX8_status_13 rfl rfl (by decide) rfl rfl ?_
      refine zf_ld (pc' := 17) (v := .inl v1) dX8_status_16 rfl (fun _ _ _ => rfl) rfl rfl rfl ?_
      refine zf_bi (v := 10) (pc' := 19) dX8_status_17 rfl rfl ?_
      refine zf_in (pc' := 20) (S' := [.inl (v1 - 10), .inr (.inr (1, 64))]) dX8_status_19 rfl (fun _ _ _ => rfl) ?_
      refine zf_ial (pc' := 21) dX8_status_20 rfl (⟨by decide, rfl⟩ : zf_arr 64 8).1 (⟨by decide, rfl⟩ : zf_arr 64 8).2 h.1 rfl ?_
      replace h := h.2
      exact zf_ri dX8_status_21 rfl h
