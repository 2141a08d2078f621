/-! part 29: the reference: status, a day: laid by wip/p2/meths.py -/
def zt_210 : zx_MT := (8, yX8_status, cX8_status, 2, (some FieldType.int), 1, 0)
theorem zm_210 : zx_m 210 = zt_210 := rfl
theorem dX8_status_0 : decode cX8_status 0 = .ok (.iload_n 1, 1) := by decide +kernel
theorem dX8_status_1 : decode cX8_status 1 = .ok (.bipush 11, 2) := by decide +kernel
theorem dX8_status_3 : decode cX8_status 3 = .ok (.if_icmp .lt 19, 3) := by decide +kernel
theorem dX8_status_6 : decode cX8_status 6 = .ok (.iload_n 1, 1) := by decide +kernel
theorem dX8_status_7 : decode cX8_status 7 = .ok (.bipush 17, 2) := by decide +kernel
theorem dX8_status_9 : decode cX8_status 9 = .ok (.if_icmp .gt 13, 3) := by decide +kernel
theorem dX8_status_12 : decode cX8_status 12 = .ok (.aload_n 0, 1) := by decide +kernel
theorem dX8_status_13 : decode cX8_status 13 = .ok (.getfield 37, 3) := by decide +kernel
theorem dX8_status_16 : decode cX8_status 16 = .ok (.iload_n 1, 1) := by decide +kernel
theorem dX8_status_17 : decode cX8_status 17 = .ok (.bipush 10, 2) := by decide +kernel
theorem dX8_status_19 : decode cX8_status 19 = .ok (.isub, 1) := by decide +kernel
theorem dX8_status_20 : decode cX8_status 20 = .ok (.iaload, 1) := by decide +kernel
theorem dX8_status_21 : decode cX8_status 21 = .ok (.ireturn, 1) := by decide +kernel
theorem dX8_status_22 : decode cX8_status 22 = .ok (.iload_n 1, 1) := by decide +kernel
theorem dX8_status_23 : decode cX8_status 23 = .ok (.bipush 6, 2) := by decide +kernel
theorem dX8_status_25 : decode cX8_status 25 = .ok (.if_icmp .lt 18, 3) := by decide +kernel
theorem dX8_status_28 : decode cX8_status 28 = .ok (.iload_n 1, 1) := by decide +kernel
theorem dX8_status_29 : decode cX8_status 29 = .ok (.bipush 10, 2) := by decide +kernel
theorem dX8_status_31 : decode cX8_status 31 = .ok (.if_icmp .gt 12, 3) := by decide +kernel
theorem dX8_status_34 : decode cX8_status 34 = .ok (.aload_n 0, 1) := by decide +kernel
theorem dX8_status_35 : decode cX8_status 35 = .ok (.iload_n 1, 1) := by decide +kernel
theorem dX8_status_36 : decode cX8_status 36 = .ok (.bipush 6, 2) := by decide +kernel
theorem dX8_status_38 : decode cX8_status 38 = .ok (.isub, 1) := by decide +kernel
theorem dX8_status_39 : decode cX8_status 39 = .ok (.invokevirtual 145, 3) := by decide +kernel
theorem dX8_status_42 : decode cX8_status 42 = .ok (.ireturn, 1) := by decide +kernel
theorem dX8_status_43 : decode cX8_status 43 = .ok (.iload_n 1, 1) := by decide +kernel
theorem dX8_status_44 : decode cX8_status 44 = .ok (.tableswitch 153 0 20 #[100, 105, 110, 115, 120, 125, 153, 153, 153, 153, 153, 153, 153, 153, 153, 153, 153, 153, 130, 135, 140], 100) := by decide +kernel
theorem dX8_status_144 : decode cX8_status 144 = .ok (.aload_n 0, 1) := by decide +kernel
theorem dX8_status_145 : decode cX8_status 145 = .ok (.getfield 105, 3) := by decide +kernel
theorem dX8_status_148 : decode cX8_status 148 = .ok (.ireturn, 1) := by decide +kernel
theorem dX8_status_149 : decode cX8_status 149 = .ok (.aload_n 0, 1) := by decide +kernel
theorem dX8_status_150 : decode cX8_status 150 = .ok (.getfield 108, 3) := by decide +kernel
theorem dX8_status_153 : decode cX8_status 153 = .ok (.ireturn, 1) := by decide +kernel
theorem dX8_status_154 : decode cX8_status 154 = .ok (.aload_n 0, 1) := by decide +kernel
theorem dX8_status_155 : decode cX8_status 155 = .ok (.getfield 207, 3) := by decide +kernel
theorem dX8_status_158 : decode cX8_status 158 = .ok (.ireturn, 1) := by decide +kernel
theorem dX8_status_159 : decode cX8_status 159 = .ok (.aload_n 0, 1) := by decide +kernel
theorem dX8_status_160 : decode cX8_status 160 = .ok (.getfield 210, 3) := by decide +kernel
theorem dX8_status_163 : decode cX8_status 163 = .ok (.ireturn, 1) := by decide +kernel
theorem dX8_status_164 : decode cX8_status 164 = .ok (.aload_n 0, 1) := by decide +kernel
theorem dX8_status_165 : decode cX8_status 165 = .ok (.getfield 13, 3) := by decide +kernel
theorem dX8_status_168 : decode cX8_status 168 = .ok (.ireturn, 1) := by decide +kernel
theorem dX8_status_169 : decode cX8_status 169 = .ok (.aload_n 0, 1) := by decide +kernel
theorem dX8_status_170 : decode cX8_status 170 = .ok (.getfield 204, 3) := by decide +kernel
theorem dX8_status_173 : decode cX8_status 173 = .ok (.ireturn, 1) := by decide +kernel
theorem dX8_status_174 : decode cX8_status 174 = .ok (.aload_n 0, 1) := by decide +kernel
theorem dX8_status_175 : decode cX8_status 175 = .ok (.getfield 31, 3) := by decide +kernel
theorem dX8_status_178 : decode cX8_status 178 = .ok (.ireturn, 1) := by decide +kernel
theorem dX8_status_179 : decode cX8_status 179 = .ok (.aload_n 0, 1) := by decide +kernel
theorem dX8_status_180 : decode cX8_status 180 = .ok (.getfield 303, 3) := by decide +kernel
theorem dX8_status_183 : decode cX8_status 183 = .ok (.ireturn, 1) := by decide +kernel
theorem dX8_status_184 : decode cX8_status 184 = .ok (.aload_n 0, 1) := by decide +kernel
theorem dX8_status_185 : decode cX8_status 185 = .ok (.invokevirtual 122, 3) := by decide +kernel
theorem dX8_status_188 : decode cX8_status 188 = .ok (.ifCond .eq 7, 3) := by decide +kernel
theorem dX8_status_191 : decode cX8_status 191 = .ok (.iconst 1, 1) := by decide +kernel
theorem dX8_status_192 : decode cX8_status 192 = .ok (.goto 4, 3) := by decide +kernel
theorem dX8_status_195 : decode cX8_status 195 = .ok (.iconst 0, 1) := by decide +kernel
theorem dX8_status_196 : decode cX8_status 196 = .ok (.ireturn, 1) := by decide +kernel
theorem dX8_status_197 : decode cX8_status 197 = .ok (.iconst (-1), 1) := by decide +kernel
theorem dX8_status_198 : decode cX8_status 198 = .ok (.ireturn, 1) := by decide +kernel
theorem zc_210 {d : Nat} {h : List zx_C} {w : Int32} {Q : Option zx_V → List zx_C → Prop} (hI : zx_I h)    (hq : ∀ (v : Int32) (h2 : List zx_C), zx_I h2 → (∀ i, i ∉ ([] : List Nat) → h2[i]? = h[i]?) → Q (some (.inl v)) h2) : zx_M (d + 1) 210 [.inr (.inr (1, 63)), .inl w] h Q := by
  have el_m1 : ((-1) : Int32).toInt = -1 := by decide
  have el_0 : (0 : Int32).toInt = 0 := by decide
  have el_1 : (1 : Int32).toInt = 1 := by decide
  have el_6 : (6 : Int32).toInt = 6 := by decide
  have el_10 : (10 : Int32).toInt = 10 := by decide
  have el_11 : (11 : Int32).toInt = 11 := by decide
  have el_17 : (17 : Int32).toInt = 17 := by decide
  obtain ⟨x1, c63_1, m_furlongs1, m_many1, m_bagged1, m_legs1, m_most1, m_nap1, m_on1, m_biscuits1, m_races1, m_worn1, m_here1, m_minutes1, m_seed1, m_fault1, m_base1, m_at1, m_end1, m_number1, m_wrongAt1, m_bestMany1, m_bestHere1, m_bestWorn1, m_bestMinutes1, m_turn1, m_ever1, m_made1, m_ruleHere1, m_ruleMinutes1, m_ruleEver1, m_ran1, m_isKept1, rfl, q0_1, q1_1, q2_1, q3_1, q4_1, q5_1, q6_1, q7_1, q8_1⟩ := zi_g hI 63 (by decide)
  obtain ⟨x2, c64_2, f64_2, rfl, l64_2⟩ := zi_g hI 64 (by decide)
  have fr0 : ∀ i, i ∉ ([] : List Nat) → h[i]? = h[i]? := fun _ _ => rfl
  have es := fb_subI (x := w) (y := 10)
  refine zx_M_of (Nat.le_of_ble_eq_true rfl) zm_210 (L := [some (.inr (.inr (1, 63))), some (.inl w)]) rfl ?_
  refine zx_W_ins (pc' := 1) dX8_status_0 rfl (fun _ => rfl) rfl ?_
  refine zw_bi (v := 11) (pc' := 3) dX8_status_1 rfl rfl ?_
  refine zw_icmp_lt (tgt := 22) (pc' := 6) dX8_status_3 rfl rfl (fun g3 => ?_) (fun g3 => ?_)
  · refine zx_W_ins (pc' := 23) dX8_status_22 rfl (fun _ => rfl) rfl ?_
    refine zw_bi (v := 6) (pc' := 25) dX8_status_23 rfl rfl ?_
    refine zw_icmp_lt (tgt := 43) (pc' := 28) dX8_status_25 rfl rfl (fun g4 => ?_) (fun g4 => ?_)
    · refine zx_W_ins (pc' := 44) dX8_status_43 rfl (fun _ => rfl) rfl ?_
      refine zw_tsc (tgd := 197) dX8_status_44 rfl [144, 149, 154, 159, 164, 169, 197, 197, 197, 197, 197, 197, 197, 197, 197, 197, 197, 197, 174, 179, 184] (by decide) (by decide) (fun g5 => ?_) (zl_cons (fun g5 => ?_) (zl_cons (fun g5 => ?_) (zl_cons (fun g5 => ?_) (zl_cons (fun g5 => ?_) (zl_cons (fun g5 => ?_) (zl_cons (fun g5 => ?_) (zl_cons (fun g5 => ?_) (zl_cons (fun g5 => ?_) (zl_cons (fun g5 => ?_) (zl_cons (fun g5 => ?_) (zl_cons (fun g5 => ?_) (zl_cons (fun g5 => ?_) (zl_cons (fun g5 => ?_) (zl_cons (fun g5 => ?_) (zl_cons (fun g5 => ?_) (zl_cons (fun g5 => ?_) (zl_cons (fun g5 => ?_) (zl_cons (fun g5 => ?_) (zl_cons (fun g5 => ?_) (zl_cons (fun g5 => ?_) (zl_cons (fun g5 => ?_) (zl_nil))))))))))))))))))))))
      · refine zw_ic (v := (-1)) (pc' := 198) dX8_status_197 rfl rfl ?_
        refine zw_iret dX8_status_198 rfl rfl ?_
        exact hq _ h hI fr0
      · refine zx_W_ins (pc' := 145) dX8_status_144 rfl (fun _ => rfl) rfl ?_
        refine zw_gf (pc' := 148) dX8_status_145 rfl rfl c63_1 rfl ?_
        refine zw_iret dX8_status_148 rfl rfl ?_
        exact hq _ h hI fr0
      · refine zx_W_ins (pc' := 150) dX8_status_149 rfl (fun _ => rfl) rfl ?_
        refine zw_gf (pc' := 153) dX8_status_150 rfl rfl c63_1 rfl ?_
        refine zw_iret dX8_status_153 rfl rfl ?_
        exact hq _ h hI fr0
      · refine zx_W_ins (pc' := 155) dX8_status_154 rfl (fun _ => rfl) rfl ?_
        refine zw_gf (pc' := 158) dX8_status_155 rfl rfl c63_1 rfl ?_
        refine zw_iret dX8_status_158 rfl rfl ?_
        exact hq _ h hI fr0
      · refine zx_W_ins (pc' := 160) dX8_status_159 rfl (fun _ => rfl) rfl ?_
        refine zw_gf (pc' := 163) dX8_status_160 rfl rfl c63_1 rfl ?_
        refine zw_iret dX8_status_163 rfl rfl ?_
        exact hq _ h hI fr0
      · refine zx_W_ins (pc' := 165) dX8_status_164 rfl (fun _ => rfl) rfl ?_
        refine zw_gf (pc' := 168) dX8_status_165 rfl rfl c63_1 rfl ?_
        refine zw_iret dX8_status_168 rfl rfl ?_
        exact hq _ h hI fr0
      · refine zx_W_ins (pc' := 170) dX8_status_169 rfl (fun _ => rfl) rfl ?_
        refine zw_gf (pc' := 173) dX8_status_170 rfl rfl c63_1 rfl ?_
        refine zw_iret dX8_status_173 rfl rfl ?_
        exact hq _ h hI fr0
      · refine zw_ic (v := (-1)) (pc' := 198) dX8_status_197 rfl rfl ?_
        refine zw_iret dX8_status_198 rfl rfl ?_
        exact hq _ h hI fr0
      · refine zw_ic (v := (-1)) (pc' := 198) dX8_status_197 rfl rfl ?_
        refine zw_iret dX8_status_198 rfl rfl ?_
        exact hq _ h hI fr0
      · refine zw_ic (v := (-1)) (pc' := 198) dX8_status_197 rfl rfl ?_
        refine zw_iret dX8_status_198 rfl rfl ?_
        exact hq _ h hI fr0
      · refine zw_ic (v := (-1)) (pc' := 198) dX8_status_197 rfl rfl ?_
        refine zw_iret dX8_status_198 rfl rfl ?_
        exact hq _ h hI fr0
      · refine zw_ic (v := (-1)) (pc' := 198) dX8_status_197 rfl rfl ?_
        refine zw_iret dX8_status_198 rfl rfl ?_
        exact hq _ h hI fr0
      · refine zw_ic (v := (-1)) (pc' := 198) dX8_status_197 rfl rfl ?_
        refine zw_iret dX8_status_198 rfl rfl ?_
        exact hq _ h hI fr0
      · refine zw_ic (v := (-1)) (pc' := 198) dX8_status_197 rfl rfl ?_
        refine zw_iret dX8_status_198 rfl rfl ?_
        exact hq _ h hI fr0
      · refine zw_ic (v := (-1)) (pc' := 198) dX8_status_197 rfl rfl ?_
        refine zw_iret dX8_status_198 rfl rfl ?_
        exact hq _ h hI fr0
      · refine zw_ic (v := (-1)) (pc' := 198) dX8_status_197 rfl rfl ?_
        refine zw_iret dX8_status_198 rfl rfl ?_
        exact hq _ h hI fr0
      · refine zw_ic (v := (-1)) (pc' := 198) dX8_status_197 rfl rfl ?_
        refine zw_iret dX8_status_198 rfl rfl ?_
        exact hq _ h hI fr0
      · refine zw_ic (v := (-1)) (pc' := 198) dX8_status_197 rfl rfl ?_
        refine zw_iret dX8_status_198 rfl rfl ?_
        exact hq _ h hI fr0
      · refine zw_ic (v := (-1)) (pc' := 198) dX8_status_197 rfl rfl ?_
        refine zw_iret dX8_status_198 rfl rfl ?_
        exact hq _ h hI fr0
      · refine zx_W_ins (pc' := 175) dX8_status_174 rfl (fun _ => rfl) rfl ?_
        refine zw_gf (pc' := 178) dX8_status_175 rfl rfl c63_1 rfl ?_
        refine zw_iret dX8_status_178 rfl rfl ?_
        exact hq _ h hI fr0
      · refine zx_W_ins (pc' := 180) dX8_status_179 rfl (fun _ => rfl) rfl ?_
        refine zw_gf (pc' := 183) dX8_status_180 rfl rfl c63_1 rfl ?_
        refine zw_iret dX8_status_183 rfl rfl ?_
        exact hq _ h hI fr0
      · refine zx_W_ins (pc' := 185) dX8_status_184 rfl (fun _ => rfl) rfl ?_
        refine zw_iv (k := 164) (pc' := 188) dX8_status_185 rfl rfl rfl rfl c63_1 rfl rfl (zc_164 c63_1 (fun g6 _ => ?_) (fun g6 _ => ?_))
        · show zx_W _ _ _ _ _ _ _ [.inl 1] _ _
          refine zw_if_eq (tgt := 195) (pc' := 191) dX8_status_188 rfl rfl (fun g => by first | exact absurd rfl g | exact absurd g (by decide)) (fun _ => ?_)
          refine zw_ic (v := 1) (pc' := 192) dX8_status_191 rfl rfl ?_
          refine zw_goto (tgt := 196) dX8_status_192 rfl ?_
          refine zw_iret dX8_status_196 rfl rfl ?_
          exact hq _ h hI fr0
        · show zx_W _ _ _ _ _ _ _ [.inl 0] _ _
          refine zw_if_eq (tgt := 195) (pc' := 191) dX8_status_188 rfl rfl (fun _ => ?_) (fun g => by first | exact absurd rfl g | exact absurd g (by decide))
          refine zw_ic (v := 0) (pc' := 196) dX8_status_195 rfl rfl ?_
          refine zw_iret dX8_status_196 rfl rfl ?_
          exact hq _ h hI fr0
    · refine zx_W_ins (pc' := 29) dX8_status_28 rfl (fun _ => rfl) rfl ?_
      refine zw_bi (v := 10) (pc' := 31) dX8_status_29 rfl rfl ?_
      refine zw_icmp_gt (tgt := 43) (pc' := 34) dX8_status_31 rfl rfl (fun g9 => ?_) (fun g9 => ?_)
      · refine zx_W_ins (pc' := 44) dX8_status_43 rfl (fun _ => rfl) rfl ?_
        refine zw_tsc (tgd := 197) dX8_status_44 rfl [144, 149, 154, 159, 164, 169, 197, 197, 197, 197, 197, 197, 197, 197, 197, 197, 197, 197, 174, 179, 184] (by decide) (by decide) (fun g10 => ?_) (zl_cons (fun g10 => ?_) (zl_cons (fun g10 => ?_) (zl_cons (fun g10 => ?_) (zl_cons (fun g10 => ?_) (zl_cons (fun g10 => ?_) (zl_cons (fun g10 => ?_) (zl_cons (fun g10 => ?_) (zl_cons (fun g10 => ?_) (zl_cons (fun g10 => ?_) (zl_cons (fun g10 => ?_) (zl_cons (fun g10 => ?_) (zl_cons (fun g10 => ?_) (zl_cons (fun g10 => ?_) (zl_cons (fun g10 => ?_) (zl_cons (fun g10 => ?_) (zl_cons (fun g10 => ?_) (zl_cons (fun g10 => ?_) (zl_cons (fun g10 => ?_) (zl_cons (fun g10 => ?_) (zl_cons (fun g10 => ?_) (zl_cons (fun g10 => ?_) (zl_nil))))))))))))))))))))))
        · refine zw_ic (v := (-1)) (pc' := 198) dX8_status_197 rfl rfl ?_
          refine zw_iret dX8_status_198 rfl rfl ?_
          exact hq _ h hI fr0
        · refine zx_W_ins (pc' := 145) dX8_status_144 rfl (fun _ => rfl) rfl ?_
          refine zw_gf (pc' := 148) dX8_status_145 rfl rfl c63_1 rfl ?_
          refine zw_iret dX8_status_148 rfl rfl ?_
          exact hq _ h hI fr0
        · refine zx_W_ins (pc' := 150) dX8_status_149 rfl (fun _ => rfl) rfl ?_
          refine zw_gf (pc' := 153) dX8_status_150 rfl rfl c63_1 rfl ?_
          refine zw_iret dX8_status_153 rfl rfl ?_
          exact hq _ h hI fr0
        · refine zx_W_ins (pc' := 155) dX8_status_154 rfl (fun _ => rfl) rfl ?_
          refine zw_gf (pc' := 158) dX8_status_155 rfl rfl c63_1 rfl ?_
          refine zw_iret dX8_status_158 rfl rfl ?_
          exact hq _ h hI fr0
        · refine zx_W_ins (pc' := 160) dX8_status_159 rfl (fun _ => rfl) rfl ?_
          refine zw_gf (pc' := 163) dX8_status_160 rfl rfl c63_1 rfl ?_
          refine zw_iret dX8_status_163 rfl rfl ?_
          exact hq _ h hI fr0
        · refine zx_W_ins (pc' := 165) dX8_status_164 rfl (fun _ => rfl) rfl ?_
          refine zw_gf (pc' := 168) dX8_status_165 rfl rfl c63_1 rfl ?_
          refine zw_iret dX8_status_168 rfl rfl ?_
          exact hq _ h hI fr0
        · refine zx_W_ins (pc' := 170) dX8_status_169 rfl (fun _ => rfl) rfl ?_
          refine zw_gf (pc' := 173) dX8_status_170 rfl rfl c63_1 rfl ?_
          refine zw_iret dX8_status_173 rfl rfl ?_
          exact hq _ h hI fr0
        · refine zw_ic (v := (-1)) (pc' := 198) dX8_status_197 rfl rfl ?_
          refine zw_iret dX8_status_198 rfl rfl ?_
          exact hq _ h hI fr0
        · refine zw_ic (v := (-1)) (pc' := 198) dX8_status_197 rfl rfl ?_
          refine zw_iret dX8_status_198 rfl rfl ?_
          exact hq _ h hI fr0
        · refine zw_ic (v := (-1)) (pc' := 198) dX8_status_197 rfl rfl ?_
          refine zw_iret dX8_status_198 rfl rfl ?_
          exact hq _ h hI fr0
        · refine zw_ic (v := (-1)) (pc' := 198) dX8_status_197 rfl rfl ?_
          refine zw_iret dX8_status_198 rfl rfl ?_
          exact hq _ h hI fr0
        · refine zw_ic (v := (-1)) (pc' := 198) dX8_status_197 rfl rfl ?_
          refine zw_iret dX8_status_198 rfl rfl ?_
          exact hq _ h hI fr0
        · refine zw_ic (v := (-1)) (pc' := 198) dX8_status_197 rfl rfl ?_
          refine zw_iret dX8_status_198 rfl rfl ?_
          exact hq _ h hI fr0
        · refine zw_ic (v := (-1)) (pc' := 198) dX8_status_197 rfl rfl ?_
          refine zw_iret dX8_status_198 rfl rfl ?_
          exact hq _ h hI fr0
        · refine zw_ic (v := (-1)) (pc' := 198) dX8_status_197 rfl rfl ?_
          refine zw_iret dX8_status_198 rfl rfl ?_
          exact hq _ h hI fr0
        · refine zw_ic (v := (-1)) (pc' := 198) dX8_status_197 rfl rfl ?_
          refine zw_iret dX8_status_198 rfl rfl ?_
          exact hq _ h hI fr0
        · refine zw_ic (v := (-1)) (pc' := 198) dX8_status_197 rfl rfl ?_
          refine zw_iret dX8_status_198 rfl rfl ?_
          exact hq _ h hI fr0
        · refine zw_ic (v := (-1)) (pc' := 198) dX8_status_197 rfl rfl ?_
          refine zw_iret dX8_status_198 rfl rfl ?_
          exact hq _ h hI fr0
        · refine zw_ic (v := (-1)) (pc' := 198) dX8_status_197 rfl rfl ?_
          refine zw_iret dX8_status_198 rfl rfl ?_
          exact hq _ h hI fr0
        · refine zx_W_ins (pc' := 175) dX8_status_174 rfl (fun _ => rfl) rfl ?_
          refine zw_gf (pc' := 178) dX8_status_175 rfl rfl c63_1 rfl ?_
          refine zw_iret dX8_status_178 rfl rfl ?_
          exact hq _ h hI fr0
        · refine zx_W_ins (pc' := 180) dX8_status_179 rfl (fun _ => rfl) rfl ?_
          refine zw_gf (pc' := 183) dX8_status_180 rfl rfl c63_1 rfl ?_
          refine zw_iret dX8_status_183 rfl rfl ?_
          exact hq _ h hI fr0
        · refine zx_W_ins (pc' := 185) dX8_status_184 rfl (fun _ => rfl) rfl ?_
          refine zw_iv (k := 164) (pc' := 188) dX8_status_185 rfl rfl rfl rfl c63_1 rfl rfl (zc_164 c63_1 (fun g11 _ => ?_) (fun g11 _ => ?_))
          · show zx_W _ _ _ _ _ _ _ [.inl 1] _ _
            refine zw_if_eq (tgt := 195) (pc' := 191) dX8_status_188 rfl rfl (fun g => by first | exact absurd rfl g | exact absurd g (by decide)) (fun _ => ?_)
            refine zw_ic (v := 1) (pc' := 192) dX8_status_191 rfl rfl ?_
            refine zw_goto (tgt := 196) dX8_status_192 rfl ?_
            refine zw_iret dX8_status_196 rfl rfl ?_
            exact hq _ h hI fr0
          · show zx_W _ _ _ _ _ _ _ [.inl 0] _ _
            refine zw_if_eq (tgt := 195) (pc' := 191) dX8_status_188 rfl rfl (fun _ => ?_) (fun g => by first | exact absurd rfl g | exact absurd g (by decide))
            refine zw_ic (v := 0) (pc' := 196) dX8_status_195 rfl rfl ?_
            refine zw_iret dX8_status_196 rfl rfl ?_
            exact hq _ h hI fr0
      · refine zx_W_ins (pc' := 35) dX8_status_34 rfl (fun _ => rfl) rfl ?_
        refine zx_W_ins (pc' := 36) dX8_status_35 rfl (fun _ => rfl) rfl ?_
        refine zw_bi (v := 6) (pc' := 38) dX8_status_36 rfl rfl ?_
        refine zx_W_ins (pc' := 39) dX8_status_38 rfl (fun _ => rfl) rfl ?_
        refine zw_iv (k := 147) (pc' := 42) dX8_status_39 rfl rfl rfl rfl c63_1 rfl rfl (zc_147 hI (fun v14 h15 hI16 fr17 _ => ?_))
        show zx_W _ _ _ _ _ _ _ [.inl v14] _ _
        have fr18 : ∀ i, i ∉ ([] : List Nat) → h15[i]? = h[i]? := fun i hi => Eq.trans (fr17 i (fun z => hi (by first | exact absurd z List.not_mem_nil | (simp only [List.mem_cons, List.not_mem_nil, or_false] at z ⊢; omega)))) (fr0 i hi)
        have c19 : h15[63]? = some (.inl (8, [.inl m_furlongs1, .inl m_many1, .inl m_bagged1, .inl m_legs1, .inl m_most1, .inl m_nap1, .inl m_on1, .inl m_biscuits1, .inl m_races1, .inl m_worn1, .inl m_here1, .inl m_minutes1, .inl m_seed1, .inl m_fault1, .inr (.inr (1, 64)), .inr (.inr (1, 65)), .inr (.inr (1, 66)), .inr (.inr (1, 67)), .inr (.inr (1, 68)), .inr (.inr (1, 69)), .inr (.inr (1, 70)), .inr (.inr (1, 71)), .inr (.inr (1, 72)), .inr (.inr (1, 73)), .inr (.inr (1, 74)), .inr (.inr (1, 75)), .inr (.inr (1, 76)), .inr (.inr (1, 77)), .inr (.inr (1, 78)), .inl m_base1, .inl m_at1, .inl m_end1, .inl m_number1, .inl m_wrongAt1, .inr (.inr (1, 79)), .inr (.inr (1, 80)), .inr (.inr (1, 81)), .inr (.inr (1, 82)), .inr (.inr (1, 83)), .inr (.inr (1, 84)), .inl m_bestMany1, .inl m_bestHere1, .inl m_bestWorn1, .inl m_bestMinutes1, .inl m_turn1, .inl m_ever1, .inl m_made1, .inl m_ruleHere1, .inl m_ruleMinutes1, .inl m_ruleEver1, .inr (.inr (1, 85)), .inl m_ran1, .inl m_isKept1])) := by rw [fr17 63 (by decide)]; exact c63_1
        have c20 : h15[64]? = some (.inr (0, .inl f64_2)) := by rw [fr17 64 (by decide)]; exact c64_2
        refine zw_iret dX8_status_42 rfl rfl ?_
        exact hq _ h15 hI16 fr18
  · refine zx_W_ins (pc' := 7) dX8_status_6 rfl (fun _ => rfl) rfl ?_
    refine zw_bi (v := 17) (pc' := 9) dX8_status_7 rfl rfl ?_
    refine zw_icmp_gt (tgt := 22) (pc' := 12) dX8_status_9 rfl rfl (fun g21 => ?_) (fun g21 => ?_)
    · refine zx_W_ins (pc' := 23) dX8_status_22 rfl (fun _ => rfl) rfl ?_
      refine zw_bi (v := 6) (pc' := 25) dX8_status_23 rfl rfl ?_
      refine zw_icmp_lt (tgt := 43) (pc' := 28) dX8_status_25 rfl rfl (fun g22 => ?_) (fun g22 => ?_)
      · refine zx_W_ins (pc' := 44) dX8_status_43 rfl (fun _ => rfl) rfl ?_
        refine zw_tsc (tgd := 197) dX8_status_44 rfl [144, 149, 154, 159, 164, 169, 197, 197, 197, 197, 197, 197, 197, 197, 197, 197, 197, 197, 174, 179, 184] (by decide) (by decide) (fun g23 => ?_) (zl_cons (fun g23 => ?_) (zl_cons (fun g23 => ?_) (zl_cons (fun g23 => ?_) (zl_cons (fun g23 => ?_) (zl_cons (fun g23 => ?_) (zl_cons (fun g23 => ?_) (zl_cons (fun g23 => ?_) (zl_cons (fun g23 => ?_) (zl_cons (fun g23 => ?_) (zl_cons (fun g23 => ?_) (zl_cons (fun g23 => ?_) (zl_cons (fun g23 => ?_) (zl_cons (fun g23 => ?_) (zl_cons (fun g23 => ?_) (zl_cons (fun g23 => ?_) (zl_cons (fun g23 => ?_) (zl_cons (fun g23 => ?_) (zl_cons (fun g23 => ?_) (zl_cons (fun g23 => ?_) (zl_cons (fun g23 => ?_) (zl_cons (fun g23 => ?_) (zl_nil))))))))))))))))))))))
        · refine zw_ic (v := (-1)) (pc' := 198) dX8_status_197 rfl rfl ?_
          refine zw_iret dX8_status_198 rfl rfl ?_
          exact hq _ h hI fr0
        · refine zx_W_ins (pc' := 145) dX8_status_144 rfl (fun _ => rfl) rfl ?_
          refine zw_gf (pc' := 148) dX8_status_145 rfl rfl c63_1 rfl ?_
          refine zw_iret dX8_status_148 rfl rfl ?_
          exact hq _ h hI fr0
        · refine zx_W_ins (pc' := 150) dX8_status_149 rfl (fun _ => rfl) rfl ?_
          refine zw_gf (pc' := 153) dX8_status_150 rfl rfl c63_1 rfl ?_
          refine zw_iret dX8_status_153 rfl rfl ?_
          exact hq _ h hI fr0
        · refine zx_W_ins (pc' := 155) dX8_status_154 rfl (fun _ => rfl) rfl ?_
          refine zw_gf (pc' := 158) dX8_status_155 rfl rfl c63_1 rfl ?_
          refine zw_iret dX8_status_158 rfl rfl ?_
          exact hq _ h hI fr0
        · refine zx_W_ins (pc' := 160) dX8_status_159 rfl (fun _ => rfl) rfl ?_
          refine zw_gf (pc' := 163) dX8_status_160 rfl rfl c63_1 rfl ?_
          refine zw_iret dX8_status_163 rfl rfl ?_
          exact hq _ h hI fr0
        · refine zx_W_ins (pc' := 165) dX8_status_164 rfl (fun _ => rfl) rfl ?_
          refine zw_gf (pc' := 168) dX8_status_165 rfl rfl c63_1 rfl ?_
          refine zw_iret dX8_status_168 rfl rfl ?_
          exact hq _ h hI fr0
        · refine zx_W_ins (pc' := 170) dX8_status_169 rfl (fun _ => rfl) rfl ?_
          refine zw_gf (pc' := 173) dX8_status_170 rfl rfl c63_1 rfl ?_
          refine zw_iret dX8_status_173 rfl rfl ?_
          exact hq _ h hI fr0
        · refine zw_ic (v := (-1)) (pc' := 198) dX8_status_197 rfl rfl ?_
          refine zw_iret dX8_status_198 rfl rfl ?_
          exact hq _ h hI fr0
        · refine zw_ic (v := (-1)) (pc' := 198) dX8_status_197 rfl rfl ?_
          refine zw_iret dX8_status_198 rfl rfl ?_
          exact hq _ h hI fr0
        · refine zw_ic (v := (-1)) (pc' := 198) dX8_status_197 rfl rfl ?_
          refine zw_iret dX8_status_198 rfl rfl ?_
          exact hq _ h hI fr0
        · refine zw_ic (v := (-1)) (pc' := 198) dX8_status_197 rfl rfl ?_
          refine zw_iret dX8_status_198 rfl rfl ?_
          exact hq _ h hI fr0
        · refine zw_ic (v := (-1)) (pc' := 198) dX8_status_197 rfl rfl ?_
          refine zw_iret dX8_status_198 rfl rfl ?_
          exact hq _ h hI fr0
        · refine zw_ic (v := (-1)) (pc' := 198) dX8_status_197 rfl rfl ?_
          refine zw_iret dX8_status_198 rfl rfl ?_
          exact hq _ h hI fr0
        · refine zw_ic (v := (-1)) (pc' := 198) dX8_status_197 rfl rfl ?_
          refine zw_iret dX8_status_198 rfl rfl ?_
          exact hq _ h hI fr0
        · refine zw_ic (v := (-1)) (pc' := 198) dX8_status_197 rfl rfl ?_
          refine zw_iret dX8_status_198 rfl rfl ?_
          exact hq _ h hI fr0
        · refine zw_ic (v := (-1)) (pc' := 198) dX8_status_197 rfl rfl ?_
          refine zw_iret dX8_status_198 rfl rfl ?_
          exact hq _ h hI fr0
        · refine zw_ic (v := (-1)) (pc' := 198) dX8_status_197 rfl rfl ?_
          refine zw_iret dX8_status_198 rfl rfl ?_
          exact hq _ h hI fr0
        · refine zw_ic (v := (-1)) (pc' := 198) dX8_status_197 rfl rfl ?_
          refine zw_iret dX8_status_198 rfl rfl ?_
          exact hq _ h hI fr0
        · refine zw_ic (v := (-1)) (pc' := 198) dX8_status_197 rfl rfl ?_
          refine zw_iret dX8_status_198 rfl rfl ?_
          exact hq _ h hI fr0
        · refine zx_W_ins (pc' := 175) dX8_status_174 rfl (fun _ => rfl) rfl ?_
          refine zw_gf (pc' := 178) dX8_status_175 rfl rfl c63_1 rfl ?_
          refine zw_iret dX8_status_178 rfl rfl ?_
          exact hq _ h hI fr0
        · refine zx_W_ins (pc' := 180) dX8_status_179 rfl (fun _ => rfl) rfl ?_
          refine zw_gf (pc' := 183) dX8_status_180 rfl rfl c63_1 rfl ?_
          refine zw_iret dX8_status_183 rfl rfl ?_
          exact hq _ h hI fr0
        · refine zx_W_ins (pc' := 185) dX8_status_184 rfl (fun _ => rfl) rfl ?_
          refine zw_iv (k := 164) (pc' := 188) dX8_status_185 rfl rfl rfl rfl c63_1 rfl rfl (zc_164 c63_1 (fun g24 _ => ?_) (fun g24 _ => ?_))
          · show zx_W _ _ _ _ _ _ _ [.inl 1] _ _
            refine zw_if_eq (tgt := 195) (pc' := 191) dX8_status_188 rfl rfl (fun g => by first | exact absurd rfl g | exact absurd g (by decide)) (fun _ => ?_)
            refine zw_ic (v := 1) (pc' := 192) dX8_status_191 rfl rfl ?_
            refine zw_goto (tgt := 196) dX8_status_192 rfl ?_
            refine zw_iret dX8_status_196 rfl rfl ?_
            exact hq _ h hI fr0
          · show zx_W _ _ _ _ _ _ _ [.inl 0] _ _
            refine zw_if_eq (tgt := 195) (pc' := 191) dX8_status_188 rfl rfl (fun _ => ?_) (fun g => by first | exact absurd rfl g | exact absurd g (by decide))
            refine zw_ic (v := 0) (pc' := 196) dX8_status_195 rfl rfl ?_
            refine zw_iret dX8_status_196 rfl rfl ?_
            exact hq _ h hI fr0
      · refine zx_W_ins (pc' := 29) dX8_status_28 rfl (fun _ => rfl) rfl ?_
        refine zw_bi (v := 10) (pc' := 31) dX8_status_29 rfl rfl ?_
        refine zw_icmp_gt (tgt := 43) (pc' := 34) dX8_status_31 rfl rfl (fun g27 => ?_) (fun g27 => ?_)
        · refine zx_W_ins (pc' := 44) dX8_status_43 rfl (fun _ => rfl) rfl ?_
          refine zw_tsc (tgd := 197) dX8_status_44 rfl [144, 149, 154, 159, 164, 169, 197, 197, 197, 197, 197, 197, 197, 197, 197, 197, 197, 197, 174, 179, 184] (by decide) (by decide) (fun g28 => ?_) (zl_cons (fun g28 => ?_) (zl_cons (fun g28 => ?_) (zl_cons (fun g28 => ?_) (zl_cons (fun g28 => ?_) (zl_cons (fun g28 => ?_) (zl_cons (fun g28 => ?_) (zl_cons (fun g28 => ?_) (zl_cons (fun g28 => ?_) (zl_cons (fun g28 => ?_) (zl_cons (fun g28 => ?_) (zl_cons (fun g28 => ?_) (zl_cons (fun g28 => ?_) (zl_cons (fun g28 => ?_) (zl_cons (fun g28 => ?_) (zl_cons (fun g28 => ?_) (zl_cons (fun g28 => ?_) (zl_cons (fun g28 => ?_) (zl_cons (fun g28 => ?_) (zl_cons (fun g28 => ?_) (zl_cons (fun g28 => ?_) (zl_cons (fun g28 => ?_) (zl_nil))))))))))))))))))))))
          · refine zw_ic (v := (-1)) (pc' := 198) dX8_status_197 rfl rfl ?_
            refine zw_iret dX8_status_198 rfl rfl ?_
            exact hq _ h hI fr0
          · refine zx_W_ins (pc' := 145) dX8_status_144 rfl (fun _ => rfl) rfl ?_
            refine zw_gf (pc' := 148) dX8_status_145 rfl rfl c63_1 rfl ?_
            refine zw_iret dX8_status_148 rfl rfl ?_
            exact hq _ h hI fr0
          · refine zx_W_ins (pc' := 150) dX8_status_149 rfl (fun _ => rfl) rfl ?_
            refine zw_gf (pc' := 153) dX8_status_150 rfl rfl c63_1 rfl ?_
            refine zw_iret dX8_status_153 rfl rfl ?_
            exact hq _ h hI fr0
          · refine zx_W_ins (pc' := 155) dX8_status_154 rfl (fun _ => rfl) rfl ?_
            refine zw_gf (pc' := 158) dX8_status_155 rfl rfl c63_1 rfl ?_
            refine zw_iret dX8_status_158 rfl rfl ?_
            exact hq _ h hI fr0
          · refine zx_W_ins (pc' := 160) dX8_status_159 rfl (fun _ => rfl) rfl ?_
            refine zw_gf (pc' := 163) dX8_status_160 rfl rfl c63_1 rfl ?_
            refine zw_iret dX8_status_163 rfl rfl ?_
            exact hq _ h hI fr0
          · refine zx_W_ins (pc' := 165) dX8_status_164 rfl (fun _ => rfl) rfl ?_
            refine zw_gf (pc' := 168) dX8_status_165 rfl rfl c63_1 rfl ?_
            refine zw_iret dX8_status_168 rfl rfl ?_
            exact hq _ h hI fr0
          · refine zx_W_ins (pc' := 170) dX8_status_169 rfl (fun _ => rfl) rfl ?_
            refine zw_gf (pc' := 173) dX8_status_170 rfl rfl c63_1 rfl ?_
            refine zw_iret dX8_status_173 rfl rfl ?_
            exact hq _ h hI fr0
          · refine zw_ic (v := (-1)) (pc' := 198) dX8_status_197 rfl rfl ?_
            refine zw_iret dX8_status_198 rfl rfl ?_
            exact hq _ h hI fr0
          · refine zw_ic (v := (-1)) (pc' := 198) dX8_status_197 rfl rfl ?_
            refine zw_iret dX8_status_198 rfl rfl ?_
            exact hq _ h hI fr0
          · refine zw_ic (v := (-1)) (pc' := 198) dX8_status_197 rfl rfl ?_
            refine zw_iret dX8_status_198 rfl rfl ?_
            exact hq _ h hI fr0
          · refine zw_ic (v := (-1)) (pc' := 198) dX8_status_197 rfl rfl ?_
            refine zw_iret dX8_status_198 rfl rfl ?_
            exact hq _ h hI fr0
          · refine zw_ic (v := (-1)) (pc' := 198) dX8_status_197 rfl rfl ?_
            refine zw_iret dX8_status_198 rfl rfl ?_
            exact hq _ h hI fr0
          · refine zw_ic (v := (-1)) (pc' := 198) dX8_status_197 rfl rfl ?_
            refine zw_iret dX8_status_198 rfl rfl ?_
            exact hq _ h hI fr0
          · refine zw_ic (v := (-1)) (pc' := 198) dX8_status_197 rfl rfl ?_
            refine zw_iret dX8_status_198 rfl rfl ?_
            exact hq _ h hI fr0
          · refine zw_ic (v := (-1)) (pc' := 198) dX8_status_197 rfl rfl ?_
            refine zw_iret dX8_status_198 rfl rfl ?_
            exact hq _ h hI fr0
          · refine zw_ic (v := (-1)) (pc' := 198) dX8_status_197 rfl rfl ?_
            refine zw_iret dX8_status_198 rfl rfl ?_
            exact hq _ h hI fr0
          · refine zw_ic (v := (-1)) (pc' := 198) dX8_status_197 rfl rfl ?_
            refine zw_iret dX8_status_198 rfl rfl ?_
            exact hq _ h hI fr0
          · refine zw_ic (v := (-1)) (pc' := 198) dX8_status_197 rfl rfl ?_
            refine zw_iret dX8_status_198 rfl rfl ?_
            exact hq _ h hI fr0
          · refine zw_ic (v := (-1)) (pc' := 198) dX8_status_197 rfl rfl ?_
            refine zw_iret dX8_status_198 rfl rfl ?_
            exact hq _ h hI fr0
          · refine zx_W_ins (pc' := 175) dX8_status_174 rfl (fun _ => rfl) rfl ?_
            refine zw_gf (pc' := 178) dX8_status_175 rfl rfl c63_1 rfl ?_
            refine zw_iret dX8_status_178 rfl rfl ?_
            exact hq _ h hI fr0
          · refine zx_W_ins (pc' := 180) dX8_status_179 rfl (fun _ => rfl) rfl ?_
            refine zw_gf (pc' := 183) dX8_status_180 rfl rfl c63_1 rfl ?_
            refine zw_iret dX8_status_183 rfl rfl ?_
            exact hq _ h hI fr0
          · refine zx_W_ins (pc' := 185) dX8_status_184 rfl (fun _ => rfl) rfl ?_
            refine zw_iv (k := 164) (pc' := 188) dX8_status_185 rfl rfl rfl rfl c63_1 rfl rfl (zc_164 c63_1 (fun g29 _ => ?_) (fun g29 _ => ?_))
            · show zx_W _ _ _ _ _ _ _ [.inl 1] _ _
              refine zw_if_eq (tgt := 195) (pc' := 191) dX8_status_188 rfl rfl (fun g => by first | exact absurd rfl g | exact absurd g (by decide)) (fun _ => ?_)
              refine zw_ic (v := 1) (pc' := 192) dX8_status_191 rfl rfl ?_
              refine zw_goto (tgt := 196) dX8_status_192 rfl ?_
              refine zw_iret dX8_status_196 rfl rfl ?_
              exact hq _ h hI fr0
            · show zx_W _ _ _ _ _ _ _ [.inl 0] _ _
              refine zw_if_eq (tgt := 195) (pc' := 191) dX8_status_188 rfl rfl (fun _ => ?_) (fun g => by first | exact absurd rfl g | exact absurd g (by decide))
              refine zw_ic (v := 0) (pc' := 196) dX8_status_195 rfl rfl ?_
              refine zw_iret dX8_status_196 rfl rfl ?_
              exact hq _ h hI fr0
        · refine zx_W_ins (pc' := 35) dX8_status_34 rfl (fun _ => rfl) rfl ?_
          refine zx_W_ins (pc' := 36) dX8_status_35 rfl (fun _ => rfl) rfl ?_
          refine zw_bi (v := 6) (pc' := 38) dX8_status_36 rfl rfl ?_
          refine zx_W_ins (pc' := 39) dX8_status_38 rfl (fun _ => rfl) rfl ?_
          refine zw_iv (k := 147) (pc' := 42) dX8_status_39 rfl rfl rfl rfl c63_1 rfl rfl (zc_147 hI (fun v32 h33 hI34 fr35 _ => ?_))
          show zx_W _ _ _ _ _ _ _ [.inl v32] _ _
          have fr36 : ∀ i, i ∉ ([] : List Nat) → h33[i]? = h[i]? := fun i hi => Eq.trans (fr35 i (fun z => hi (by first | exact absurd z List.not_mem_nil | (simp only [List.mem_cons, List.not_mem_nil, or_false] at z ⊢; omega)))) (fr0 i hi)
          have c37 : h33[63]? = some (.inl (8, [.inl m_furlongs1, .inl m_many1, .inl m_bagged1, .inl m_legs1, .inl m_most1, .inl m_nap1, .inl m_on1, .inl m_biscuits1, .inl m_races1, .inl m_worn1, .inl m_here1, .inl m_minutes1, .inl m_seed1, .inl m_fault1, .inr (.inr (1, 64)), .inr (.inr (1, 65)), .inr (.inr (1, 66)), .inr (.inr (1, 67)), .inr (.inr (1, 68)), .inr (.inr (1, 69)), .inr (.inr (1, 70)), .inr (.inr (1, 71)), .inr (.inr (1, 72)), .inr (.inr (1, 73)), .inr (.inr (1, 74)), .inr (.inr (1, 75)), .inr (.inr (1, 76)), .inr (.inr (1, 77)), .inr (.inr (1, 78)), .inl m_base1, .inl m_at1, .inl m_end1, .inl m_number1, .inl m_wrongAt1, .inr (.inr (1, 79)), .inr (.inr (1, 80)), .inr (.inr (1, 81)), .inr (.inr (1, 82)), .inr (.inr (1, 83)), .inr (.inr (1, 84)), .inl m_bestMany1, .inl m_bestHere1, .inl m_bestWorn1, .inl m_bestMinutes1, .inl m_turn1, .inl m_ever1, .inl m_made1, .inl m_ruleHere1, .inl m_ruleMinutes1, .inl m_ruleEver1, .inr (.inr (1, 85)), .inl m_ran1, .inl m_isKept1])) := by rw [fr35 63 (by decide)]; exact c63_1
          have c38 : h33[64]? = some (.inr (0, .inl f64_2)) := by rw [fr35 64 (by decide)]; exact c64_2
          refine zw_iret dX8_status_42 rfl rfl ?_
          exact hq _ h33 hI34 fr36
    · refine zx_W_ins (pc' := 13) dX8_status_12 rfl (fun _ => rfl) rfl ?_
      refine zw_gf (pc' := 16) dX8_status_13 rfl rfl c63_1 rfl ?_
      refine zx_W_ins (pc' := 17) dX8_status_16 rfl (fun _ => rfl) rfl ?_
      refine zw_bi (v := 10) (pc' := 19) dX8_status_17 rfl rfl ?_
      refine zx_W_ins (pc' := 20) dX8_status_19 rfl (fun _ => rfl) rfl ?_
      refine zw_ial (pc' := 21) dX8_status_20 rfl c64_2 (zi_in (by have := l64_2; omega)) ?_
      refine zw_iret dX8_status_21 rfl rfl ?_
      exact hq _ h hI fr0
def zt_200 : zx_MT := (8, yX8_day, cX8_day, 3, (some FieldType.int), 0, 0)
theorem zm_200 : zx_m 200 = zt_200 := rfl
theorem dX8_day_0 : decode cX8_day 0 = .ok (.aload_n 0, 1) := by decide +kernel
theorem dX8_day_1 : decode cX8_day 1 = .ok (.getfield 207, 3) := by decide +kernel
theorem dX8_day_4 : decode cX8_day 4 = .ok (.istore_n 1, 1) := by decide +kernel
theorem dX8_day_5 : decode cX8_day 5 = .ok (.aload_n 0, 1) := by decide +kernel
theorem dX8_day_6 : decode cX8_day 6 = .ok (.iconst 0, 1) := by decide +kernel
theorem dX8_day_7 : decode cX8_day 7 = .ok (.putfield 207, 3) := by decide +kernel
theorem dX8_day_10 : decode cX8_day 10 = .ok (.aload_n 0, 1) := by decide +kernel
theorem dX8_day_11 : decode cX8_day 11 = .ok (.iconst 0, 1) := by decide +kernel
theorem dX8_day_12 : decode cX8_day 12 = .ok (.putfield 210, 3) := by decide +kernel
theorem dX8_day_15 : decode cX8_day 15 = .ok (.aload_n 0, 1) := by decide +kernel
theorem dX8_day_16 : decode cX8_day 16 = .ok (.iconst 0, 1) := by decide +kernel
theorem dX8_day_17 : decode cX8_day 17 = .ok (.putfield 204, 3) := by decide +kernel
theorem dX8_day_20 : decode cX8_day 20 = .ok (.aload_n 0, 1) := by decide +kernel
theorem dX8_day_21 : decode cX8_day 21 = .ok (.aload_n 0, 1) := by decide +kernel
theorem dX8_day_22 : decode cX8_day 22 = .ok (.getfield 16, 3) := by decide +kernel
theorem dX8_day_25 : decode cX8_day 25 = .ok (.putfield 13, 3) := by decide +kernel
theorem dX8_day_28 : decode cX8_day 28 = .ok (.iconst 0, 1) := by decide +kernel
theorem dX8_day_29 : decode cX8_day 29 = .ok (.istore_n 2, 1) := by decide +kernel
theorem dX8_day_30 : decode cX8_day 30 = .ok (.iload_n 2, 1) := by decide +kernel
theorem dX8_day_31 : decode cX8_day 31 = .ok (.aload_n 0, 1) := by decide +kernel
theorem dX8_day_32 : decode cX8_day 32 = .ok (.getfield 105, 3) := by decide +kernel
theorem dX8_day_35 : decode cX8_day 35 = .ok (.if_icmp .ge 16, 3) := by decide +kernel
theorem dX8_day_38 : decode cX8_day 38 = .ok (.aload_n 0, 1) := by decide +kernel
theorem dX8_day_39 : decode cX8_day 39 = .ok (.getfield 53, 3) := by decide +kernel
theorem dX8_day_42 : decode cX8_day 42 = .ok (.iload_n 2, 1) := by decide +kernel
theorem dX8_day_43 : decode cX8_day 43 = .ok (.iconst 0, 1) := by decide +kernel
theorem dX8_day_44 : decode cX8_day 44 = .ok (.iastore, 1) := by decide +kernel
theorem dX8_day_45 : decode cX8_day 45 = .ok (.iinc 2 1, 3) := by decide +kernel
theorem dX8_day_48 : decode cX8_day 48 = .ok (.goto (-18), 3) := by decide +kernel
theorem dX8_day_51 : decode cX8_day 51 = .ok (.iload_n 1, 1) := by decide +kernel
theorem dX8_day_52 : decode cX8_day 52 = .ok (.ireturn, 1) := by decide +kernel
theorem zc_200 {d : Nat} {h : List zx_C}  {Q : Option zx_V → List zx_C → Prop} (hI : zx_I h)    (hq : ∀ (v : Int32) (h2 : List zx_C), zx_I h2 → (∀ i, i ∉ ([63, 69] : List Nat) → h2[i]? = h[i]?) → Q (some (.inl v)) h2) : zx_M (d) 200 [.inr (.inr (1, 63))] h Q := by
  have el_0 : (0 : Int32).toInt = 0 := by decide
  have el_1 : (1 : Int32).toInt = 1 := by decide
  have el_2 : (2 : Int32).toInt = 2 := by decide
  have el_3 : (3 : Int32).toInt = 3 := by decide
  have el_4 : (4 : Int32).toInt = 4 := by decide
  have el_5 : (5 : Int32).toInt = 5 := by decide
  have el_6 : (6 : Int32).toInt = 6 := by decide
  obtain ⟨x1, c63_1, m_furlongs1, m_many1, m_bagged1, m_legs1, m_most1, m_nap1, m_on1, m_biscuits1, m_races1, m_worn1, m_here1, m_minutes1, m_seed1, m_fault1, m_base1, m_at1, m_end1, m_number1, m_wrongAt1, m_bestMany1, m_bestHere1, m_bestWorn1, m_bestMinutes1, m_turn1, m_ever1, m_made1, m_ruleHere1, m_ruleMinutes1, m_ruleEver1, m_ran1, m_isKept1, rfl, q0_1, q1_1, q2_1, q3_1, q4_1, q5_1, q6_1, q7_1, q8_1⟩ := zi_g hI 63 (by decide)
  obtain ⟨x2, c69_2, f69_2, rfl, l69_2⟩ := zi_g hI 69 (by decide)
  have fr0 : ∀ i, i ∉ ([63, 69] : List Nat) → h[i]? = h[i]? := fun _ _ => rfl
  refine zx_M_of (Nat.le_of_ble_eq_true rfl) zm_200 (L := [some (.inr (.inr (1, 63))), none, none]) rfl ?_
  refine zx_W_ins (pc' := 1) dX8_day_0 rfl (fun _ => rfl) rfl ?_
  refine zw_gf (pc' := 4) dX8_day_1 rfl rfl c63_1 rfl ?_
  refine zx_W_ins (pc' := 5) (L' := [some (.inr (.inr (1, 63))), some (.inl m_here1), none]) dX8_day_4 rfl (fun _ => rfl) rfl ?_
  refine zx_W_ins (pc' := 6) dX8_day_5 rfl (fun _ => rfl) rfl ?_
  refine zw_ic (v := 0) (pc' := 7) dX8_day_6 rfl rfl ?_
  refine zw_pf (pc' := 10) dX8_day_7 rfl rfl c63_1 rfl (fs' := [.inl m_furlongs1, .inl m_many1, .inl m_bagged1, .inl m_legs1, .inl m_most1, .inl m_nap1, .inl m_on1, .inl m_biscuits1, .inl m_races1, .inl m_worn1, .inl 0, .inl m_minutes1, .inl m_seed1, .inl m_fault1, .inr (.inr (1, 64)), .inr (.inr (1, 65)), .inr (.inr (1, 66)), .inr (.inr (1, 67)), .inr (.inr (1, 68)), .inr (.inr (1, 69)), .inr (.inr (1, 70)), .inr (.inr (1, 71)), .inr (.inr (1, 72)), .inr (.inr (1, 73)), .inr (.inr (1, 74)), .inr (.inr (1, 75)), .inr (.inr (1, 76)), .inr (.inr (1, 77)), .inr (.inr (1, 78)), .inl m_base1, .inl m_at1, .inl m_end1, .inl m_number1, .inl m_wrongAt1, .inr (.inr (1, 79)), .inr (.inr (1, 80)), .inr (.inr (1, 81)), .inr (.inr (1, 82)), .inr (.inr (1, 83)), .inr (.inr (1, 84)), .inl m_bestMany1, .inl m_bestHere1, .inl m_bestWorn1, .inl m_bestMinutes1, .inl m_turn1, .inl m_ever1, .inl m_made1, .inl m_ruleHere1, .inl m_ruleMinutes1, .inl m_ruleEver1, .inr (.inr (1, 85)), .inl m_ran1, .inl m_isKept1]) rfl ?_
  obtain ⟨h3, e4⟩ : ∃ z, z = h.set 63 (.inl (8, [.inl m_furlongs1, .inl m_many1, .inl m_bagged1, .inl m_legs1, .inl m_most1, .inl m_nap1, .inl m_on1, .inl m_biscuits1, .inl m_races1, .inl m_worn1, .inl 0, .inl m_minutes1, .inl m_seed1, .inl m_fault1, .inr (.inr (1, 64)), .inr (.inr (1, 65)), .inr (.inr (1, 66)), .inr (.inr (1, 67)), .inr (.inr (1, 68)), .inr (.inr (1, 69)), .inr (.inr (1, 70)), .inr (.inr (1, 71)), .inr (.inr (1, 72)), .inr (.inr (1, 73)), .inr (.inr (1, 74)), .inr (.inr (1, 75)), .inr (.inr (1, 76)), .inr (.inr (1, 77)), .inr (.inr (1, 78)), .inl m_base1, .inl m_at1, .inl m_end1, .inl m_number1, .inl m_wrongAt1, .inr (.inr (1, 79)), .inr (.inr (1, 80)), .inr (.inr (1, 81)), .inr (.inr (1, 82)), .inr (.inr (1, 83)), .inr (.inr (1, 84)), .inl m_bestMany1, .inl m_bestHere1, .inl m_bestWorn1, .inl m_bestMinutes1, .inl m_turn1, .inl m_ever1, .inl m_made1, .inl m_ruleHere1, .inl m_ruleMinutes1, .inl m_ruleEver1, .inr (.inr (1, 85)), .inl m_ran1, .inl m_isKept1])) := ⟨_, rfl⟩
  rw [← e4]
  have c5 : h3[63]? = some (.inl (8, [.inl m_furlongs1, .inl m_many1, .inl m_bagged1, .inl m_legs1, .inl m_most1, .inl m_nap1, .inl m_on1, .inl m_biscuits1, .inl m_races1, .inl m_worn1, .inl 0, .inl m_minutes1, .inl m_seed1, .inl m_fault1, .inr (.inr (1, 64)), .inr (.inr (1, 65)), .inr (.inr (1, 66)), .inr (.inr (1, 67)), .inr (.inr (1, 68)), .inr (.inr (1, 69)), .inr (.inr (1, 70)), .inr (.inr (1, 71)), .inr (.inr (1, 72)), .inr (.inr (1, 73)), .inr (.inr (1, 74)), .inr (.inr (1, 75)), .inr (.inr (1, 76)), .inr (.inr (1, 77)), .inr (.inr (1, 78)), .inl m_base1, .inl m_at1, .inl m_end1, .inl m_number1, .inl m_wrongAt1, .inr (.inr (1, 79)), .inr (.inr (1, 80)), .inr (.inr (1, 81)), .inr (.inr (1, 82)), .inr (.inr (1, 83)), .inr (.inr (1, 84)), .inl m_bestMany1, .inl m_bestHere1, .inl m_bestWorn1, .inl m_bestMinutes1, .inl m_turn1, .inl m_ever1, .inl m_made1, .inl m_ruleHere1, .inl m_ruleMinutes1, .inl m_ruleEver1, .inr (.inr (1, 85)), .inl m_ran1, .inl m_isKept1])) := by rw [e4, List.getElem?_set_self (List.getElem?_eq_some_iff.mp c63_1).1]
  have c6 : h3[69]? = some (.inr (0, .inl f69_2)) := by rw [e4, List.getElem?_set_ne (by first | decide | omega)]; exact c69_2
  have hI7 : zx_I h3 := by rw [e4]; exact zi_set hI (show zc_ref _ from ⟨_, _, _, _, _, _, _, _, _, _, _, _, _, _, _, _, _, _, _, _, _, _, _, _, _, _, _, _, _, _, _, rfl, by omega, by omega, by omega, by omega, by omega, by omega, by omega, by omega, by assumption⟩) (by decide) (by decide)
  have fr8 : ∀ i, i ∉ ([63, 69] : List Nat) → h3[i]? = h[i]? := fun i hi => Eq.trans (b := h[i]?) (by rw [e4, List.getElem?_set_ne (fun z => hi (by rw [← z]; decide))]) (fr0 i hi)
  refine zx_W_ins (pc' := 11) dX8_day_10 rfl (fun _ => rfl) rfl ?_
  refine zw_ic (v := 0) (pc' := 12) dX8_day_11 rfl rfl ?_
  refine zw_pf (pc' := 15) dX8_day_12 rfl rfl c5 rfl (fs' := [.inl m_furlongs1, .inl m_many1, .inl m_bagged1, .inl m_legs1, .inl m_most1, .inl m_nap1, .inl m_on1, .inl m_biscuits1, .inl m_races1, .inl m_worn1, .inl 0, .inl 0, .inl m_seed1, .inl m_fault1, .inr (.inr (1, 64)), .inr (.inr (1, 65)), .inr (.inr (1, 66)), .inr (.inr (1, 67)), .inr (.inr (1, 68)), .inr (.inr (1, 69)), .inr (.inr (1, 70)), .inr (.inr (1, 71)), .inr (.inr (1, 72)), .inr (.inr (1, 73)), .inr (.inr (1, 74)), .inr (.inr (1, 75)), .inr (.inr (1, 76)), .inr (.inr (1, 77)), .inr (.inr (1, 78)), .inl m_base1, .inl m_at1, .inl m_end1, .inl m_number1, .inl m_wrongAt1, .inr (.inr (1, 79)), .inr (.inr (1, 80)), .inr (.inr (1, 81)), .inr (.inr (1, 82)), .inr (.inr (1, 83)), .inr (.inr (1, 84)), .inl m_bestMany1, .inl m_bestHere1, .inl m_bestWorn1, .inl m_bestMinutes1, .inl m_turn1, .inl m_ever1, .inl m_made1, .inl m_ruleHere1, .inl m_ruleMinutes1, .inl m_ruleEver1, .inr (.inr (1, 85)), .inl m_ran1, .inl m_isKept1]) rfl ?_
  obtain ⟨h9, e10⟩ : ∃ z, z = h3.set 63 (.inl (8, [.inl m_furlongs1, .inl m_many1, .inl m_bagged1, .inl m_legs1, .inl m_most1, .inl m_nap1, .inl m_on1, .inl m_biscuits1, .inl m_races1, .inl m_worn1, .inl 0, .inl 0, .inl m_seed1, .inl m_fault1, .inr (.inr (1, 64)), .inr (.inr (1, 65)), .inr (.inr (1, 66)), .inr (.inr (1, 67)), .inr (.inr (1, 68)), .inr (.inr (1, 69)), .inr (.inr (1, 70)), .inr (.inr (1, 71)), .inr (.inr (1, 72)), .inr (.inr (1, 73)), .inr (.inr (1, 74)), .inr (.inr (1, 75)), .inr (.inr (1, 76)), .inr (.inr (1, 77)), .inr (.inr (1, 78)), .inl m_base1, .inl m_at1, .inl m_end1, .inl m_number1, .inl m_wrongAt1, .inr (.inr (1, 79)), .inr (.inr (1, 80)), .inr (.inr (1, 81)), .inr (.inr (1, 82)), .inr (.inr (1, 83)), .inr (.inr (1, 84)), .inl m_bestMany1, .inl m_bestHere1, .inl m_bestWorn1, .inl m_bestMinutes1, .inl m_turn1, .inl m_ever1, .inl m_made1, .inl m_ruleHere1, .inl m_ruleMinutes1, .inl m_ruleEver1, .inr (.inr (1, 85)), .inl m_ran1, .inl m_isKept1])) := ⟨_, rfl⟩
  rw [← e10]
  have c11 : h9[63]? = some (.inl (8, [.inl m_furlongs1, .inl m_many1, .inl m_bagged1, .inl m_legs1, .inl m_most1, .inl m_nap1, .inl m_on1, .inl m_biscuits1, .inl m_races1, .inl m_worn1, .inl 0, .inl 0, .inl m_seed1, .inl m_fault1, .inr (.inr (1, 64)), .inr (.inr (1, 65)), .inr (.inr (1, 66)), .inr (.inr (1, 67)), .inr (.inr (1, 68)), .inr (.inr (1, 69)), .inr (.inr (1, 70)), .inr (.inr (1, 71)), .inr (.inr (1, 72)), .inr (.inr (1, 73)), .inr (.inr (1, 74)), .inr (.inr (1, 75)), .inr (.inr (1, 76)), .inr (.inr (1, 77)), .inr (.inr (1, 78)), .inl m_base1, .inl m_at1, .inl m_end1, .inl m_number1, .inl m_wrongAt1, .inr (.inr (1, 79)), .inr (.inr (1, 80)), .inr (.inr (1, 81)), .inr (.inr (1, 82)), .inr (.inr (1, 83)), .inr (.inr (1, 84)), .inl m_bestMany1, .inl m_bestHere1, .inl m_bestWorn1, .inl m_bestMinutes1, .inl m_turn1, .inl m_ever1, .inl m_made1, .inl m_ruleHere1, .inl m_ruleMinutes1, .inl m_ruleEver1, .inr (.inr (1, 85)), .inl m_ran1, .inl m_isKept1])) := by rw [e10, List.getElem?_set_self (List.getElem?_eq_some_iff.mp c5).1]
  have c12 : h9[69]? = some (.inr (0, .inl f69_2)) := by rw [e10, List.getElem?_set_ne (by first | decide | omega)]; exact c6
  have hI13 : zx_I h9 := by rw [e10]; exact zi_set hI7 (show zc_ref _ from ⟨_, _, _, _, _, _, _, _, _, _, _, _, _, _, _, _, _, _, _, _, _, _, _, _, _, _, _, _, _, _, _, rfl, by omega, by omega, by omega, by omega, by omega, by omega, by omega, by omega, by assumption⟩) (by decide) (by decide)
  have fr14 : ∀ i, i ∉ ([63, 69] : List Nat) → h9[i]? = h[i]? := fun i hi => Eq.trans (b := h3[i]?) (by rw [e10, List.getElem?_set_ne (fun z => hi (by rw [← z]; decide))]) (fr8 i hi)
  refine zx_W_ins (pc' := 16) dX8_day_15 rfl (fun _ => rfl) rfl ?_
  refine zw_ic (v := 0) (pc' := 17) dX8_day_16 rfl rfl ?_
  refine zw_pf (pc' := 20) dX8_day_17 rfl rfl c11 rfl (fs' := [.inl m_furlongs1, .inl m_many1, .inl m_bagged1, .inl m_legs1, .inl m_most1, .inl m_nap1, .inl 0, .inl m_biscuits1, .inl m_races1, .inl m_worn1, .inl 0, .inl 0, .inl m_seed1, .inl m_fault1, .inr (.inr (1, 64)), .inr (.inr (1, 65)), .inr (.inr (1, 66)), .inr (.inr (1, 67)), .inr (.inr (1, 68)), .inr (.inr (1, 69)), .inr (.inr (1, 70)), .inr (.inr (1, 71)), .inr (.inr (1, 72)), .inr (.inr (1, 73)), .inr (.inr (1, 74)), .inr (.inr (1, 75)), .inr (.inr (1, 76)), .inr (.inr (1, 77)), .inr (.inr (1, 78)), .inl m_base1, .inl m_at1, .inl m_end1, .inl m_number1, .inl m_wrongAt1, .inr (.inr (1, 79)), .inr (.inr (1, 80)), .inr (.inr (1, 81)), .inr (.inr (1, 82)), .inr (.inr (1, 83)), .inr (.inr (1, 84)), .inl m_bestMany1, .inl m_bestHere1, .inl m_bestWorn1, .inl m_bestMinutes1, .inl m_turn1, .inl m_ever1, .inl m_made1, .inl m_ruleHere1, .inl m_ruleMinutes1, .inl m_ruleEver1, .inr (.inr (1, 85)), .inl m_ran1, .inl m_isKept1]) rfl ?_
  obtain ⟨h15, e16⟩ : ∃ z, z = h9.set 63 (.inl (8, [.inl m_furlongs1, .inl m_many1, .inl m_bagged1, .inl m_legs1, .inl m_most1, .inl m_nap1, .inl 0, .inl m_biscuits1, .inl m_races1, .inl m_worn1, .inl 0, .inl 0, .inl m_seed1, .inl m_fault1, .inr (.inr (1, 64)), .inr (.inr (1, 65)), .inr (.inr (1, 66)), .inr (.inr (1, 67)), .inr (.inr (1, 68)), .inr (.inr (1, 69)), .inr (.inr (1, 70)), .inr (.inr (1, 71)), .inr (.inr (1, 72)), .inr (.inr (1, 73)), .inr (.inr (1, 74)), .inr (.inr (1, 75)), .inr (.inr (1, 76)), .inr (.inr (1, 77)), .inr (.inr (1, 78)), .inl m_base1, .inl m_at1, .inl m_end1, .inl m_number1, .inl m_wrongAt1, .inr (.inr (1, 79)), .inr (.inr (1, 80)), .inr (.inr (1, 81)), .inr (.inr (1, 82)), .inr (.inr (1, 83)), .inr (.inr (1, 84)), .inl m_bestMany1, .inl m_bestHere1, .inl m_bestWorn1, .inl m_bestMinutes1, .inl m_turn1, .inl m_ever1, .inl m_made1, .inl m_ruleHere1, .inl m_ruleMinutes1, .inl m_ruleEver1, .inr (.inr (1, 85)), .inl m_ran1, .inl m_isKept1])) := ⟨_, rfl⟩
  rw [← e16]
  have c17 : h15[63]? = some (.inl (8, [.inl m_furlongs1, .inl m_many1, .inl m_bagged1, .inl m_legs1, .inl m_most1, .inl m_nap1, .inl 0, .inl m_biscuits1, .inl m_races1, .inl m_worn1, .inl 0, .inl 0, .inl m_seed1, .inl m_fault1, .inr (.inr (1, 64)), .inr (.inr (1, 65)), .inr (.inr (1, 66)), .inr (.inr (1, 67)), .inr (.inr (1, 68)), .inr (.inr (1, 69)), .inr (.inr (1, 70)), .inr (.inr (1, 71)), .inr (.inr (1, 72)), .inr (.inr (1, 73)), .inr (.inr (1, 74)), .inr (.inr (1, 75)), .inr (.inr (1, 76)), .inr (.inr (1, 77)), .inr (.inr (1, 78)), .inl m_base1, .inl m_at1, .inl m_end1, .inl m_number1, .inl m_wrongAt1, .inr (.inr (1, 79)), .inr (.inr (1, 80)), .inr (.inr (1, 81)), .inr (.inr (1, 82)), .inr (.inr (1, 83)), .inr (.inr (1, 84)), .inl m_bestMany1, .inl m_bestHere1, .inl m_bestWorn1, .inl m_bestMinutes1, .inl m_turn1, .inl m_ever1, .inl m_made1, .inl m_ruleHere1, .inl m_ruleMinutes1, .inl m_ruleEver1, .inr (.inr (1, 85)), .inl m_ran1, .inl m_isKept1])) := by rw [e16, List.getElem?_set_self (List.getElem?_eq_some_iff.mp c11).1]
  have c18 : h15[69]? = some (.inr (0, .inl f69_2)) := by rw [e16, List.getElem?_set_ne (by first | decide | omega)]; exact c12
  have hI19 : zx_I h15 := by rw [e16]; exact zi_set hI13 (show zc_ref _ from ⟨_, _, _, _, _, _, _, _, _, _, _, _, _, _, _, _, _, _, _, _, _, _, _, _, _, _, _, _, _, _, _, rfl, by omega, by omega, by omega, by omega, by omega, by omega, by omega, by omega, by assumption⟩) (by decide) (by decide)
  have fr20 : ∀ i, i ∉ ([63, 69] : List Nat) → h15[i]? = h[i]? := fun i hi => Eq.trans (b := h9[i]?) (by rw [e16, List.getElem?_set_ne (fun z => hi (by rw [← z]; decide))]) (fr14 i hi)
  refine zx_W_ins (pc' := 21) dX8_day_20 rfl (fun _ => rfl) rfl ?_
  refine zx_W_ins (pc' := 22) dX8_day_21 rfl (fun _ => rfl) rfl ?_
  refine zw_gf (pc' := 25) dX8_day_22 rfl rfl c17 rfl ?_
  refine zw_pf (pc' := 28) dX8_day_25 rfl rfl c17 rfl (fs' := [.inl m_furlongs1, .inl m_many1, .inl m_bagged1, .inl m_most1, .inl m_most1, .inl m_nap1, .inl 0, .inl m_biscuits1, .inl m_races1, .inl m_worn1, .inl 0, .inl 0, .inl m_seed1, .inl m_fault1, .inr (.inr (1, 64)), .inr (.inr (1, 65)), .inr (.inr (1, 66)), .inr (.inr (1, 67)), .inr (.inr (1, 68)), .inr (.inr (1, 69)), .inr (.inr (1, 70)), .inr (.inr (1, 71)), .inr (.inr (1, 72)), .inr (.inr (1, 73)), .inr (.inr (1, 74)), .inr (.inr (1, 75)), .inr (.inr (1, 76)), .inr (.inr (1, 77)), .inr (.inr (1, 78)), .inl m_base1, .inl m_at1, .inl m_end1, .inl m_number1, .inl m_wrongAt1, .inr (.inr (1, 79)), .inr (.inr (1, 80)), .inr (.inr (1, 81)), .inr (.inr (1, 82)), .inr (.inr (1, 83)), .inr (.inr (1, 84)), .inl m_bestMany1, .inl m_bestHere1, .inl m_bestWorn1, .inl m_bestMinutes1, .inl m_turn1, .inl m_ever1, .inl m_made1, .inl m_ruleHere1, .inl m_ruleMinutes1, .inl m_ruleEver1, .inr (.inr (1, 85)), .inl m_ran1, .inl m_isKept1]) rfl ?_
  obtain ⟨h21, e22⟩ : ∃ z, z = h15.set 63 (.inl (8, [.inl m_furlongs1, .inl m_many1, .inl m_bagged1, .inl m_most1, .inl m_most1, .inl m_nap1, .inl 0, .inl m_biscuits1, .inl m_races1, .inl m_worn1, .inl 0, .inl 0, .inl m_seed1, .inl m_fault1, .inr (.inr (1, 64)), .inr (.inr (1, 65)), .inr (.inr (1, 66)), .inr (.inr (1, 67)), .inr (.inr (1, 68)), .inr (.inr (1, 69)), .inr (.inr (1, 70)), .inr (.inr (1, 71)), .inr (.inr (1, 72)), .inr (.inr (1, 73)), .inr (.inr (1, 74)), .inr (.inr (1, 75)), .inr (.inr (1, 76)), .inr (.inr (1, 77)), .inr (.inr (1, 78)), .inl m_base1, .inl m_at1, .inl m_end1, .inl m_number1, .inl m_wrongAt1, .inr (.inr (1, 79)), .inr (.inr (1, 80)), .inr (.inr (1, 81)), .inr (.inr (1, 82)), .inr (.inr (1, 83)), .inr (.inr (1, 84)), .inl m_bestMany1, .inl m_bestHere1, .inl m_bestWorn1, .inl m_bestMinutes1, .inl m_turn1, .inl m_ever1, .inl m_made1, .inl m_ruleHere1, .inl m_ruleMinutes1, .inl m_ruleEver1, .inr (.inr (1, 85)), .inl m_ran1, .inl m_isKept1])) := ⟨_, rfl⟩
  rw [← e22]
  have c23 : h21[63]? = some (.inl (8, [.inl m_furlongs1, .inl m_many1, .inl m_bagged1, .inl m_most1, .inl m_most1, .inl m_nap1, .inl 0, .inl m_biscuits1, .inl m_races1, .inl m_worn1, .inl 0, .inl 0, .inl m_seed1, .inl m_fault1, .inr (.inr (1, 64)), .inr (.inr (1, 65)), .inr (.inr (1, 66)), .inr (.inr (1, 67)), .inr (.inr (1, 68)), .inr (.inr (1, 69)), .inr (.inr (1, 70)), .inr (.inr (1, 71)), .inr (.inr (1, 72)), .inr (.inr (1, 73)), .inr (.inr (1, 74)), .inr (.inr (1, 75)), .inr (.inr (1, 76)), .inr (.inr (1, 77)), .inr (.inr (1, 78)), .inl m_base1, .inl m_at1, .inl m_end1, .inl m_number1, .inl m_wrongAt1, .inr (.inr (1, 79)), .inr (.inr (1, 80)), .inr (.inr (1, 81)), .inr (.inr (1, 82)), .inr (.inr (1, 83)), .inr (.inr (1, 84)), .inl m_bestMany1, .inl m_bestHere1, .inl m_bestWorn1, .inl m_bestMinutes1, .inl m_turn1, .inl m_ever1, .inl m_made1, .inl m_ruleHere1, .inl m_ruleMinutes1, .inl m_ruleEver1, .inr (.inr (1, 85)), .inl m_ran1, .inl m_isKept1])) := by rw [e22, List.getElem?_set_self (List.getElem?_eq_some_iff.mp c17).1]
  have c24 : h21[69]? = some (.inr (0, .inl f69_2)) := by rw [e22, List.getElem?_set_ne (by first | decide | omega)]; exact c18
  have hI25 : zx_I h21 := by rw [e22]; exact zi_set hI19 (show zc_ref _ from ⟨_, _, _, _, _, _, _, _, _, _, _, _, _, _, _, _, _, _, _, _, _, _, _, _, _, _, _, _, _, _, _, rfl, by omega, by omega, by omega, by omega, by omega, by omega, by omega, by omega, by assumption⟩) (by decide) (by decide)
  have fr26 : ∀ i, i ∉ ([63, 69] : List Nat) → h21[i]? = h[i]? := fun i hi => Eq.trans (b := h15[i]?) (by rw [e22, List.getElem?_set_ne (fun z => hi (by rw [← z]; decide))]) (fr20 i hi)
  refine zw_ic (v := 0) (pc' := 29) dX8_day_28 rfl rfl ?_
  refine zx_W_ins (pc' := 30) (L' := [some (.inr (.inr (1, 63))), some (.inl m_here1), some (.inl 0)]) dX8_day_29 rfl (fun _ => rfl) rfl ?_
  refine zx_W_ins (pc' := 31) dX8_day_30 rfl (fun _ => rfl) rfl ?_
  refine zx_W_ins (pc' := 32) dX8_day_31 rfl (fun _ => rfl) rfl ?_
  refine zw_gf (pc' := 35) dX8_day_32 rfl rfl c23 rfl ?_
  refine zw_icmp_ge (tgt := 51) (pc' := 38) dX8_day_35 rfl rfl (fun g27 => ?_) (fun g27 => ?_)
  · refine zx_W_ins (pc' := 52) dX8_day_51 rfl (fun _ => rfl) rfl ?_
    refine zw_iret dX8_day_52 rfl rfl ?_
    exact hq _ h21 hI25 fr26
  · refine zx_W_ins (pc' := 39) dX8_day_38 rfl (fun _ => rfl) rfl ?_
    refine zw_gf (pc' := 42) dX8_day_39 rfl rfl c23 rfl ?_
    refine zx_W_ins (pc' := 43) dX8_day_42 rfl (fun _ => rfl) rfl ?_
    refine zw_ic (v := 0) (pc' := 44) dX8_day_43 rfl rfl ?_
    refine zw_ias (pc' := 45) dX8_day_44 rfl c24 (zi_in (by have := l69_2; omega)) ?_
    obtain ⟨h28, e29⟩ : ∃ z, z = h21.set 69 (.inr (0, .inl (f69_2.set (0 : Int32).toNatClampNeg 0))) := ⟨_, rfl⟩
    rw [← e29]
    have c30 : h28[63]? = some (.inl (8, [.inl m_furlongs1, .inl m_many1, .inl m_bagged1, .inl m_most1, .inl m_most1, .inl m_nap1, .inl 0, .inl m_biscuits1, .inl m_races1, .inl m_worn1, .inl 0, .inl 0, .inl m_seed1, .inl m_fault1, .inr (.inr (1, 64)), .inr (.inr (1, 65)), .inr (.inr (1, 66)), .inr (.inr (1, 67)), .inr (.inr (1, 68)), .inr (.inr (1, 69)), .inr (.inr (1, 70)), .inr (.inr (1, 71)), .inr (.inr (1, 72)), .inr (.inr (1, 73)), .inr (.inr (1, 74)), .inr (.inr (1, 75)), .inr (.inr (1, 76)), .inr (.inr (1, 77)), .inr (.inr (1, 78)), .inl m_base1, .inl m_at1, .inl m_end1, .inl m_number1, .inl m_wrongAt1, .inr (.inr (1, 79)), .inr (.inr (1, 80)), .inr (.inr (1, 81)), .inr (.inr (1, 82)), .inr (.inr (1, 83)), .inr (.inr (1, 84)), .inl m_bestMany1, .inl m_bestHere1, .inl m_bestWorn1, .inl m_bestMinutes1, .inl m_turn1, .inl m_ever1, .inl m_made1, .inl m_ruleHere1, .inl m_ruleMinutes1, .inl m_ruleEver1, .inr (.inr (1, 85)), .inl m_ran1, .inl m_isKept1])) := by rw [e29, List.getElem?_set_ne (by first | decide | omega)]; exact c23
    have c31 : h28[69]? = some (.inr (0, .inl (f69_2.set (0 : Int32).toNatClampNeg 0))) := by rw [e29, List.getElem?_set_self (List.getElem?_eq_some_iff.mp c24).1]
    have hI32 : zx_I h28 := by rw [e29]; exact zi_set hI25 (show zc_row 6 _ from ⟨_, rfl, by rw [List.length_set]; exact l69_2⟩) (by decide) (by decide)
    have l33 := (List.length_set (as := f69_2) (i := (0 : Int32).toNatClampNeg) (a := 0)).trans l69_2
    have fr34 : ∀ i, i ∉ ([63, 69] : List Nat) → h28[i]? = h[i]? := fun i hi => Eq.trans (b := h21[i]?) (by rw [e29, List.getElem?_set_ne (fun z => hi (by rw [← z]; decide))]) (fr26 i hi)
    refine zx_W_ins (pc' := 48) (L' := [some (.inr (.inr (1, 63))), some (.inl m_here1), some (.inl 1)]) dX8_day_45 rfl (fun _ => rfl) rfl ?_
    refine zw_goto (tgt := 30) dX8_day_48 rfl ?_
    refine zx_W_ins (pc' := 31) dX8_day_30 rfl (fun _ => rfl) rfl ?_
    refine zx_W_ins (pc' := 32) dX8_day_31 rfl (fun _ => rfl) rfl ?_
    refine zw_gf (pc' := 35) dX8_day_32 rfl rfl c30 rfl ?_
    refine zw_icmp_ge (tgt := 51) (pc' := 38) dX8_day_35 rfl rfl (fun g35 => ?_) (fun g35 => ?_)
    · refine zx_W_ins (pc' := 52) dX8_day_51 rfl (fun _ => rfl) rfl ?_
      refine zw_iret dX8_day_52 rfl rfl ?_
      exact hq _ h28 hI32 fr34
    · refine zx_W_ins (pc' := 39) dX8_day_38 rfl (fun _ => rfl) rfl ?_
      refine zw_gf (pc' := 42) dX8_day_39 rfl rfl c30 rfl ?_
      refine zx_W_ins (pc' := 43) dX8_day_42 rfl (fun _ => rfl) rfl ?_
      refine zw_ic (v := 0) (pc' := 44) dX8_day_43 rfl rfl ?_
      refine zw_ias (pc' := 45) dX8_day_44 rfl c31 (zi_in (by have := l33; omega)) ?_
      obtain ⟨h36, e37⟩ : ∃ z, z = h28.set 69 (.inr (0, .inl ((f69_2.set (0 : Int32).toNatClampNeg 0).set (1 : Int32).toNatClampNeg 0))) := ⟨_, rfl⟩
      rw [← e37]
      have c38 : h36[63]? = some (.inl (8, [.inl m_furlongs1, .inl m_many1, .inl m_bagged1, .inl m_most1, .inl m_most1, .inl m_nap1, .inl 0, .inl m_biscuits1, .inl m_races1, .inl m_worn1, .inl 0, .inl 0, .inl m_seed1, .inl m_fault1, .inr (.inr (1, 64)), .inr (.inr (1, 65)), .inr (.inr (1, 66)), .inr (.inr (1, 67)), .inr (.inr (1, 68)), .inr (.inr (1, 69)), .inr (.inr (1, 70)), .inr (.inr (1, 71)), .inr (.inr (1, 72)), .inr (.inr (1, 73)), .inr (.inr (1, 74)), .inr (.inr (1, 75)), .inr (.inr (1, 76)), .inr (.inr (1, 77)), .inr (.inr (1, 78)), .inl m_base1, .inl m_at1, .inl m_end1, .inl m_number1, .inl m_wrongAt1, .inr (.inr (1, 79)), .inr (.inr (1, 80)), .inr (.inr (1, 81)), .inr (.inr (1, 82)), .inr (.inr (1, 83)), .inr (.inr (1, 84)), .inl m_bestMany1, .inl m_bestHere1, .inl m_bestWorn1, .inl m_bestMinutes1, .inl m_turn1, .inl m_ever1, .inl m_made1, .inl m_ruleHere1, .inl m_ruleMinutes1, .inl m_ruleEver1, .inr (.inr (1, 85)), .inl m_ran1, .inl m_isKept1])) := by rw [e37, List.getElem?_set_ne (by first | decide | omega)]; exact c30
      have c39 : h36[69]? = some (.inr (0, .inl ((f69_2.set (0 : Int32).toNatClampNeg 0).set (1 : Int32).toNatClampNeg 0))) := by rw [e37, List.getElem?_set_self (List.getElem?_eq_some_iff.mp c31).1]
      have hI40 : zx_I h36 := by rw [e37]; exact zi_set hI32 (show zc_row 6 _ from ⟨_, rfl, by rw [List.length_set]; exact l33⟩) (by decide) (by decide)
      have l41 := (List.length_set (as := (f69_2.set (0 : Int32).toNatClampNeg 0)) (i := (1 : Int32).toNatClampNeg) (a := 0)).trans l33
      have fr42 : ∀ i, i ∉ ([63, 69] : List Nat) → h36[i]? = h[i]? := fun i hi => Eq.trans (b := h28[i]?) (by rw [e37, List.getElem?_set_ne (fun z => hi (by rw [← z]; decide))]) (fr34 i hi)
      refine zx_W_ins (pc' := 48) (L' := [some (.inr (.inr (1, 63))), some (.inl m_here1), some (.inl 2)]) dX8_day_45 rfl (fun _ => rfl) rfl ?_
      refine zw_goto (tgt := 30) dX8_day_48 rfl ?_
      refine zx_W_ins (pc' := 31) dX8_day_30 rfl (fun _ => rfl) rfl ?_
      refine zx_W_ins (pc' := 32) dX8_day_31 rfl (fun _ => rfl) rfl ?_
      refine zw_gf (pc' := 35) dX8_day_32 rfl rfl c38 rfl ?_
      refine zw_icmp_ge (tgt := 51) (pc' := 38) dX8_day_35 rfl rfl (fun g43 => ?_) (fun g43 => ?_)
      · refine zx_W_ins (pc' := 52) dX8_day_51 rfl (fun _ => rfl) rfl ?_
        refine zw_iret dX8_day_52 rfl rfl ?_
        exact hq _ h36 hI40 fr42
      · refine zx_W_ins (pc' := 39) dX8_day_38 rfl (fun _ => rfl) rfl ?_
        refine zw_gf (pc' := 42) dX8_day_39 rfl rfl c38 rfl ?_
        refine zx_W_ins (pc' := 43) dX8_day_42 rfl (fun _ => rfl) rfl ?_
        refine zw_ic (v := 0) (pc' := 44) dX8_day_43 rfl rfl ?_
        refine zw_ias (pc' := 45) dX8_day_44 rfl c39 (zi_in (by have := l41; omega)) ?_
        obtain ⟨h44, e45⟩ : ∃ z, z = h36.set 69 (.inr (0, .inl (((f69_2.set (0 : Int32).toNatClampNeg 0).set (1 : Int32).toNatClampNeg 0).set (2 : Int32).toNatClampNeg 0))) := ⟨_, rfl⟩
        rw [← e45]
        have c46 : h44[63]? = some (.inl (8, [.inl m_furlongs1, .inl m_many1, .inl m_bagged1, .inl m_most1, .inl m_most1, .inl m_nap1, .inl 0, .inl m_biscuits1, .inl m_races1, .inl m_worn1, .inl 0, .inl 0, .inl m_seed1, .inl m_fault1, .inr (.inr (1, 64)), .inr (.inr (1, 65)), .inr (.inr (1, 66)), .inr (.inr (1, 67)), .inr (.inr (1, 68)), .inr (.inr (1, 69)), .inr (.inr (1, 70)), .inr (.inr (1, 71)), .inr (.inr (1, 72)), .inr (.inr (1, 73)), .inr (.inr (1, 74)), .inr (.inr (1, 75)), .inr (.inr (1, 76)), .inr (.inr (1, 77)), .inr (.inr (1, 78)), .inl m_base1, .inl m_at1, .inl m_end1, .inl m_number1, .inl m_wrongAt1, .inr (.inr (1, 79)), .inr (.inr (1, 80)), .inr (.inr (1, 81)), .inr (.inr (1, 82)), .inr (.inr (1, 83)), .inr (.inr (1, 84)), .inl m_bestMany1, .inl m_bestHere1, .inl m_bestWorn1, .inl m_bestMinutes1, .inl m_turn1, .inl m_ever1, .inl m_made1, .inl m_ruleHere1, .inl m_ruleMinutes1, .inl m_ruleEver1, .inr (.inr (1, 85)), .inl m_ran1, .inl m_isKept1])) := by rw [e45, List.getElem?_set_ne (by first | decide | omega)]; exact c38
        have c47 : h44[69]? = some (.inr (0, .inl (((f69_2.set (0 : Int32).toNatClampNeg 0).set (1 : Int32).toNatClampNeg 0).set (2 : Int32).toNatClampNeg 0))) := by rw [e45, List.getElem?_set_self (List.getElem?_eq_some_iff.mp c39).1]
        have hI48 : zx_I h44 := by rw [e45]; exact zi_set hI40 (show zc_row 6 _ from ⟨_, rfl, by rw [List.length_set]; exact l41⟩) (by decide) (by decide)
        have l49 := (List.length_set (as := ((f69_2.set (0 : Int32).toNatClampNeg 0).set (1 : Int32).toNatClampNeg 0)) (i := (2 : Int32).toNatClampNeg) (a := 0)).trans l41
        have fr50 : ∀ i, i ∉ ([63, 69] : List Nat) → h44[i]? = h[i]? := fun i hi => Eq.trans (b := h36[i]?) (by rw [e45, List.getElem?_set_ne (fun z => hi (by rw [← z]; decide))]) (fr42 i hi)
        refine zx_W_ins (pc' := 48) (L' := [some (.inr (.inr (1, 63))), some (.inl m_here1), some (.inl 3)]) dX8_day_45 rfl (fun _ => rfl) rfl ?_
        refine zw_goto (tgt := 30) dX8_day_48 rfl ?_
        refine zx_W_ins (pc' := 31) dX8_day_30 rfl (fun _ => rfl) rfl ?_
        refine zx_W_ins (pc' := 32) dX8_day_31 rfl (fun _ => rfl) rfl ?_
        refine zw_gf (pc' := 35) dX8_day_32 rfl rfl c46 rfl ?_
        refine zw_icmp_ge (tgt := 51) (pc' := 38) dX8_day_35 rfl rfl (fun g51 => ?_) (fun g51 => ?_)
        · refine zx_W_ins (pc' := 52) dX8_day_51 rfl (fun _ => rfl) rfl ?_
          refine zw_iret dX8_day_52 rfl rfl ?_
          exact hq _ h44 hI48 fr50
        · refine zx_W_ins (pc' := 39) dX8_day_38 rfl (fun _ => rfl) rfl ?_
          refine zw_gf (pc' := 42) dX8_day_39 rfl rfl c46 rfl ?_
          refine zx_W_ins (pc' := 43) dX8_day_42 rfl (fun _ => rfl) rfl ?_
          refine zw_ic (v := 0) (pc' := 44) dX8_day_43 rfl rfl ?_
          refine zw_ias (pc' := 45) dX8_day_44 rfl c47 (zi_in (by have := l49; omega)) ?_
          obtain ⟨h52, e53⟩ : ∃ z, z = h44.set 69 (.inr (0, .inl ((((f69_2.set (0 : Int32).toNatClampNeg 0).set (1 : Int32).toNatClampNeg 0).set (2 : Int32).toNatClampNeg 0).set (3 : Int32).toNatClampNeg 0))) := ⟨_, rfl⟩
          rw [← e53]
          have c54 : h52[63]? = some (.inl (8, [.inl m_furlongs1, .inl m_many1, .inl m_bagged1, .inl m_most1, .inl m_most1, .inl m_nap1, .inl 0, .inl m_biscuits1, .inl m_races1, .inl m_worn1, .inl 0, .inl 0, .inl m_seed1, .inl m_fault1, .inr (.inr (1, 64)), .inr (.inr (1, 65)), .inr (.inr (1, 66)), .inr (.inr (1, 67)), .inr (.inr (1, 68)), .inr (.inr (1, 69)), .inr (.inr (1, 70)), .inr (.inr (1, 71)), .inr (.inr (1, 72)), .inr (.inr (1, 73)), .inr (.inr (1, 74)), .inr (.inr (1, 75)), .inr (.inr (1, 76)), .inr (.inr (1, 77)), .inr (.inr (1, 78)), .inl m_base1, .inl m_at1, .inl m_end1, .inl m_number1, .inl m_wrongAt1, .inr (.inr (1, 79)), .inr (.inr (1, 80)), .inr (.inr (1, 81)), .inr (.inr (1, 82)), .inr (.inr (1, 83)), .inr (.inr (1, 84)), .inl m_bestMany1, .inl m_bestHere1, .inl m_bestWorn1, .inl m_bestMinutes1, .inl m_turn1, .inl m_ever1, .inl m_made1, .inl m_ruleHere1, .inl m_ruleMinutes1, .inl m_ruleEver1, .inr (.inr (1, 85)), .inl m_ran1, .inl m_isKept1])) := by rw [e53, List.getElem?_set_ne (by first | decide | omega)]; exact c46
          have c55 : h52[69]? = some (.inr (0, .inl ((((f69_2.set (0 : Int32).toNatClampNeg 0).set (1 : Int32).toNatClampNeg 0).set (2 : Int32).toNatClampNeg 0).set (3 : Int32).toNatClampNeg 0))) := by rw [e53, List.getElem?_set_self (List.getElem?_eq_some_iff.mp c47).1]
          have hI56 : zx_I h52 := by rw [e53]; exact zi_set hI48 (show zc_row 6 _ from ⟨_, rfl, by rw [List.length_set]; exact l49⟩) (by decide) (by decide)
          have l57 := (List.length_set (as := (((f69_2.set (0 : Int32).toNatClampNeg 0).set (1 : Int32).toNatClampNeg 0).set (2 : Int32).toNatClampNeg 0)) (i := (3 : Int32).toNatClampNeg) (a := 0)).trans l49
          have fr58 : ∀ i, i ∉ ([63, 69] : List Nat) → h52[i]? = h[i]? := fun i hi => Eq.trans (b := h44[i]?) (by rw [e53, List.getElem?_set_ne (fun z => hi (by rw [← z]; decide))]) (fr50 i hi)
          refine zx_W_ins (pc' := 48) (L' := [some (.inr (.inr (1, 63))), some (.inl m_here1), some (.inl 4)]) dX8_day_45 rfl (fun _ => rfl) rfl ?_
          refine zw_goto (tgt := 30) dX8_day_48 rfl ?_
          refine zx_W_ins (pc' := 31) dX8_day_30 rfl (fun _ => rfl) rfl ?_
          refine zx_W_ins (pc' := 32) dX8_day_31 rfl (fun _ => rfl) rfl ?_
          refine zw_gf (pc' := 35) dX8_day_32 rfl rfl c54 rfl ?_
          refine zw_icmp_ge (tgt := 51) (pc' := 38) dX8_day_35 rfl rfl (fun g59 => ?_) (fun g59 => ?_)
          · refine zx_W_ins (pc' := 52) dX8_day_51 rfl (fun _ => rfl) rfl ?_
            refine zw_iret dX8_day_52 rfl rfl ?_
            exact hq _ h52 hI56 fr58
          · refine zx_W_ins (pc' := 39) dX8_day_38 rfl (fun _ => rfl) rfl ?_
            refine zw_gf (pc' := 42) dX8_day_39 rfl rfl c54 rfl ?_
            refine zx_W_ins (pc' := 43) dX8_day_42 rfl (fun _ => rfl) rfl ?_
            refine zw_ic (v := 0) (pc' := 44) dX8_day_43 rfl rfl ?_
            refine zw_ias (pc' := 45) dX8_day_44 rfl c55 (zi_in (by have := l57; omega)) ?_
            obtain ⟨h60, e61⟩ : ∃ z, z = h52.set 69 (.inr (0, .inl (((((f69_2.set (0 : Int32).toNatClampNeg 0).set (1 : Int32).toNatClampNeg 0).set (2 : Int32).toNatClampNeg 0).set (3 : Int32).toNatClampNeg 0).set (4 : Int32).toNatClampNeg 0))) := ⟨_, rfl⟩
            rw [← e61]
            have c62 : h60[63]? = some (.inl (8, [.inl m_furlongs1, .inl m_many1, .inl m_bagged1, .inl m_most1, .inl m_most1, .inl m_nap1, .inl 0, .inl m_biscuits1, .inl m_races1, .inl m_worn1, .inl 0, .inl 0, .inl m_seed1, .inl m_fault1, .inr (.inr (1, 64)), .inr (.inr (1, 65)), .inr (.inr (1, 66)), .inr (.inr (1, 67)), .inr (.inr (1, 68)), .inr (.inr (1, 69)), .inr (.inr (1, 70)), .inr (.inr (1, 71)), .inr (.inr (1, 72)), .inr (.inr (1, 73)), .inr (.inr (1, 74)), .inr (.inr (1, 75)), .inr (.inr (1, 76)), .inr (.inr (1, 77)), .inr (.inr (1, 78)), .inl m_base1, .inl m_at1, .inl m_end1, .inl m_number1, .inl m_wrongAt1, .inr (.inr (1, 79)), .inr (.inr (1, 80)), .inr (.inr (1, 81)), .inr (.inr (1, 82)), .inr (.inr (1, 83)), .inr (.inr (1, 84)), .inl m_bestMany1, .inl m_bestHere1, .inl m_bestWorn1, .inl m_bestMinutes1, .inl m_turn1, .inl m_ever1, .inl m_made1, .inl m_ruleHere1, .inl m_ruleMinutes1, .inl m_ruleEver1, .inr (.inr (1, 85)), .inl m_ran1, .inl m_isKept1])) := by rw [e61, List.getElem?_set_ne (by first | decide | omega)]; exact c54
            have c63 : h60[69]? = some (.inr (0, .inl (((((f69_2.set (0 : Int32).toNatClampNeg 0).set (1 : Int32).toNatClampNeg 0).set (2 : Int32).toNatClampNeg 0).set (3 : Int32).toNatClampNeg 0).set (4 : Int32).toNatClampNeg 0))) := by rw [e61, List.getElem?_set_self (List.getElem?_eq_some_iff.mp c55).1]
            have hI64 : zx_I h60 := by rw [e61]; exact zi_set hI56 (show zc_row 6 _ from ⟨_, rfl, by rw [List.length_set]; exact l57⟩) (by decide) (by decide)
            have l65 := (List.length_set (as := ((((f69_2.set (0 : Int32).toNatClampNeg 0).set (1 : Int32).toNatClampNeg 0).set (2 : Int32).toNatClampNeg 0).set (3 : Int32).toNatClampNeg 0)) (i := (4 : Int32).toNatClampNeg) (a := 0)).trans l57
            have fr66 : ∀ i, i ∉ ([63, 69] : List Nat) → h60[i]? = h[i]? := fun i hi => Eq.trans (b := h52[i]?) (by rw [e61, List.getElem?_set_ne (fun z => hi (by rw [← z]; decide))]) (fr58 i hi)
            refine zx_W_ins (pc' := 48) (L' := [some (.inr (.inr (1, 63))), some (.inl m_here1), some (.inl 5)]) dX8_day_45 rfl (fun _ => rfl) rfl ?_
            refine zw_goto (tgt := 30) dX8_day_48 rfl ?_
            refine zx_W_ins (pc' := 31) dX8_day_30 rfl (fun _ => rfl) rfl ?_
            refine zx_W_ins (pc' := 32) dX8_day_31 rfl (fun _ => rfl) rfl ?_
            refine zw_gf (pc' := 35) dX8_day_32 rfl rfl c62 rfl ?_
            refine zw_icmp_ge (tgt := 51) (pc' := 38) dX8_day_35 rfl rfl (fun g67 => ?_) (fun g67 => ?_)
            · refine zx_W_ins (pc' := 52) dX8_day_51 rfl (fun _ => rfl) rfl ?_
              refine zw_iret dX8_day_52 rfl rfl ?_
              exact hq _ h60 hI64 fr66
            · refine zx_W_ins (pc' := 39) dX8_day_38 rfl (fun _ => rfl) rfl ?_
              refine zw_gf (pc' := 42) dX8_day_39 rfl rfl c62 rfl ?_
              refine zx_W_ins (pc' := 43) dX8_day_42 rfl (fun _ => rfl) rfl ?_
              refine zw_ic (v := 0) (pc' := 44) dX8_day_43 rfl rfl ?_
              refine zw_ias (pc' := 45) dX8_day_44 rfl c63 (zi_in (by have := l65; omega)) ?_
              obtain ⟨h68, e69⟩ : ∃ z, z = h60.set 69 (.inr (0, .inl ((((((f69_2.set (0 : Int32).toNatClampNeg 0).set (1 : Int32).toNatClampNeg 0).set (2 : Int32).toNatClampNeg 0).set (3 : Int32).toNatClampNeg 0).set (4 : Int32).toNatClampNeg 0).set (5 : Int32).toNatClampNeg 0))) := ⟨_, rfl⟩
              rw [← e69]
              have c70 : h68[63]? = some (.inl (8, [.inl m_furlongs1, .inl m_many1, .inl m_bagged1, .inl m_most1, .inl m_most1, .inl m_nap1, .inl 0, .inl m_biscuits1, .inl m_races1, .inl m_worn1, .inl 0, .inl 0, .inl m_seed1, .inl m_fault1, .inr (.inr (1, 64)), .inr (.inr (1, 65)), .inr (.inr (1, 66)), .inr (.inr (1, 67)), .inr (.inr (1, 68)), .inr (.inr (1, 69)), .inr (.inr (1, 70)), .inr (.inr (1, 71)), .inr (.inr (1, 72)), .inr (.inr (1, 73)), .inr (.inr (1, 74)), .inr (.inr (1, 75)), .inr (.inr (1, 76)), .inr (.inr (1, 77)), .inr (.inr (1, 78)), .inl m_base1, .inl m_at1, .inl m_end1, .inl m_number1, .inl m_wrongAt1, .inr (.inr (1, 79)), .inr (.inr (1, 80)), .inr (.inr (1, 81)), .inr (.inr (1, 82)), .inr (.inr (1, 83)), .inr (.inr (1, 84)), .inl m_bestMany1, .inl m_bestHere1, .inl m_bestWorn1, .inl m_bestMinutes1, .inl m_turn1, .inl m_ever1, .inl m_made1, .inl m_ruleHere1, .inl m_ruleMinutes1, .inl m_ruleEver1, .inr (.inr (1, 85)), .inl m_ran1, .inl m_isKept1])) := by rw [e69, List.getElem?_set_ne (by first | decide | omega)]; exact c62
              have c71 : h68[69]? = some (.inr (0, .inl ((((((f69_2.set (0 : Int32).toNatClampNeg 0).set (1 : Int32).toNatClampNeg 0).set (2 : Int32).toNatClampNeg 0).set (3 : Int32).toNatClampNeg 0).set (4 : Int32).toNatClampNeg 0).set (5 : Int32).toNatClampNeg 0))) := by rw [e69, List.getElem?_set_self (List.getElem?_eq_some_iff.mp c63).1]
              have hI72 : zx_I h68 := by rw [e69]; exact zi_set hI64 (show zc_row 6 _ from ⟨_, rfl, by rw [List.length_set]; exact l65⟩) (by decide) (by decide)
              have l73 := (List.length_set (as := (((((f69_2.set (0 : Int32).toNatClampNeg 0).set (1 : Int32).toNatClampNeg 0).set (2 : Int32).toNatClampNeg 0).set (3 : Int32).toNatClampNeg 0).set (4 : Int32).toNatClampNeg 0)) (i := (5 : Int32).toNatClampNeg) (a := 0)).trans l65
              have fr74 : ∀ i, i ∉ ([63, 69] : List Nat) → h68[i]? = h[i]? := fun i hi => Eq.trans (b := h60[i]?) (by rw [e69, List.getElem?_set_ne (fun z => hi (by rw [← z]; decide))]) (fr66 i hi)
              refine zx_W_ins (pc' := 48) (L' := [some (.inr (.inr (1, 63))), some (.inl m_here1), some (.inl 6)]) dX8_day_45 rfl (fun _ => rfl) rfl ?_
              refine zw_goto (tgt := 30) dX8_day_48 rfl ?_
              refine zx_W_ins (pc' := 31) dX8_day_30 rfl (fun _ => rfl) rfl ?_
              refine zx_W_ins (pc' := 32) dX8_day_31 rfl (fun _ => rfl) rfl ?_
              refine zw_gf (pc' := 35) dX8_day_32 rfl rfl c70 rfl ?_
              refine zw_icmp_ge (tgt := 51) (pc' := 38) dX8_day_35 rfl rfl (fun g75 => ?_) (fun g75 => ?_)
              · refine zx_W_ins (pc' := 52) dX8_day_51 rfl (fun _ => rfl) rfl ?_
                refine zw_iret dX8_day_52 rfl rfl ?_
                exact hq _ h68 hI72 fr74
              · exact (by exfalso; omega)
