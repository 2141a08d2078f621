/-! part 32: the reference: says: laid by wip/p2/meths.py -/
def zt_136 : zx_MT := (8, yX8_says, cX8_says, 6, (some FieldType.int), 2, 0)
theorem zm_136 : zx_m 136 = zt_136 := rfl
theorem dX8_says_0 : decode cX8_says 0 = .ok (.aload_n 0, 1) := by decide +kernel
theorem dX8_says_1 : decode cX8_says 1 = .ok (.iload_n 1, 1) := by decide +kernel
theorem dX8_says_2 : decode cX8_says 2 = .ok (.invokevirtual 111, 3) := by decide +kernel
theorem dX8_says_5 : decode cX8_says 5 = .ok (.ifCond .eq 13, 3) := by decide +kernel
theorem dX8_says_8 : decode cX8_says 8 = .ok (.iload_n 2, 1) := by decide +kernel
theorem dX8_says_9 : decode cX8_says 9 = .ok (.ifCond .lt 9, 3) := by decide +kernel
theorem dX8_says_12 : decode cX8_says 12 = .ok (.iload_n 2, 1) := by decide +kernel
theorem dX8_says_13 : decode cX8_says 13 = .ok (.bipush 6, 2) := by decide +kernel
theorem dX8_says_15 : decode cX8_says 15 = .ok (.if_icmp .le 9, 3) := by decide +kernel
theorem dX8_says_18 : decode cX8_says 18 = .ok (.aload_n 0, 1) := by decide +kernel
theorem dX8_says_19 : decode cX8_says 19 = .ok (.iconst (-1), 1) := by decide +kernel
theorem dX8_says_20 : decode cX8_says 20 = .ok (.invokevirtual 115, 3) := by decide +kernel
theorem dX8_says_23 : decode cX8_says 23 = .ok (.ireturn, 1) := by decide +kernel
theorem dX8_says_24 : decode cX8_says 24 = .ok (.aload_n 0, 1) := by decide +kernel
theorem dX8_says_25 : decode cX8_says 25 = .ok (.getfield 56, 3) := by decide +kernel
theorem dX8_says_28 : decode cX8_says 28 = .ok (.iload_n 1, 1) := by decide +kernel
theorem dX8_says_29 : decode cX8_says 29 = .ok (.iaload, 1) := by decide +kernel
theorem dX8_says_30 : decode cX8_says 30 = .ok (.iconst 1, 1) := by decide +kernel
theorem dX8_says_31 : decode cX8_says 31 = .ok (.if_icmp .ne 10, 3) := by decide +kernel
theorem dX8_says_34 : decode cX8_says 34 = .ok (.aload_n 0, 1) := by decide +kernel
theorem dX8_says_35 : decode cX8_says 35 = .ok (.bipush (-2), 2) := by decide +kernel
theorem dX8_says_37 : decode cX8_says 37 = .ok (.invokevirtual 115, 3) := by decide +kernel
theorem dX8_says_40 : decode cX8_says 40 = .ok (.ireturn, 1) := by decide +kernel
theorem dX8_says_41 : decode cX8_says 41 = .ok (.aload_n 0, 1) := by decide +kernel
theorem dX8_says_42 : decode cX8_says 42 = .ok (.getfield 56, 3) := by decide +kernel
theorem dX8_says_45 : decode cX8_says 45 = .ok (.iload_n 1, 1) := by decide +kernel
theorem dX8_says_46 : decode cX8_says 46 = .ok (.iaload, 1) := by decide +kernel
theorem dX8_says_47 : decode cX8_says 47 = .ok (.ifCond .ne 10, 3) := by decide +kernel
theorem dX8_says_50 : decode cX8_says 50 = .ok (.aload_n 0, 1) := by decide +kernel
theorem dX8_says_51 : decode cX8_says 51 = .ok (.bipush (-3), 2) := by decide +kernel
theorem dX8_says_53 : decode cX8_says 53 = .ok (.invokevirtual 115, 3) := by decide +kernel
theorem dX8_says_56 : decode cX8_says 56 = .ok (.ireturn, 1) := by decide +kernel
theorem dX8_says_57 : decode cX8_says 57 = .ok (.aload_n 0, 1) := by decide +kernel
theorem dX8_says_58 : decode cX8_says 58 = .ok (.getfield 65, 3) := by decide +kernel
theorem dX8_says_61 : decode cX8_says 61 = .ok (.iload_n 1, 1) := by decide +kernel
theorem dX8_says_62 : decode cX8_says 62 = .ok (.iaload, 1) := by decide +kernel
theorem dX8_says_63 : decode cX8_says 63 = .ok (.istore_n 3, 1) := by decide +kernel
theorem dX8_says_64 : decode cX8_says 64 = .ok (.aload_n 0, 1) := by decide +kernel
theorem dX8_says_65 : decode cX8_says 65 = .ok (.getfield 47, 3) := by decide +kernel
theorem dX8_says_68 : decode cX8_says 68 = .ok (.iload_n 3, 1) := by decide +kernel
theorem dX8_says_69 : decode cX8_says 69 = .ok (.iaload, 1) := by decide +kernel
theorem dX8_says_70 : decode cX8_says 70 = .ok (.istore 4, 2) := by decide +kernel
theorem dX8_says_72 : decode cX8_says 72 = .ok (.iload_n 2, 1) := by decide +kernel
theorem dX8_says_73 : decode cX8_says 73 = .ok (.iconst 1, 1) := by decide +kernel
theorem dX8_says_74 : decode cX8_says 74 = .ok (.if_icmp .ne 9, 3) := by decide +kernel
theorem dX8_says_77 : decode cX8_says 77 = .ok (.iload 4, 2) := by decide +kernel
theorem dX8_says_79 : decode cX8_says 79 = .ok (.iconst 3, 1) := by decide +kernel
theorem dX8_says_80 : decode cX8_says 80 = .ok (.if_icmp .eq 26, 3) := by decide +kernel
theorem dX8_says_83 : decode cX8_says 83 = .ok (.iload_n 2, 1) := by decide +kernel
theorem dX8_says_84 : decode cX8_says 84 = .ok (.iconst 2, 1) := by decide +kernel
theorem dX8_says_85 : decode cX8_says 85 = .ok (.if_icmp .ne 9, 3) := by decide +kernel
theorem dX8_says_88 : decode cX8_says 88 = .ok (.iload 4, 2) := by decide +kernel
theorem dX8_says_90 : decode cX8_says 90 = .ok (.iconst 5, 1) := by decide +kernel
theorem dX8_says_91 : decode cX8_says 91 = .ok (.if_icmp .eq 15, 3) := by decide +kernel
theorem dX8_says_94 : decode cX8_says 94 = .ok (.iload_n 2, 1) := by decide +kernel
theorem dX8_says_95 : decode cX8_says 95 = .ok (.iconst 4, 1) := by decide +kernel
theorem dX8_says_96 : decode cX8_says 96 = .ok (.if_icmp .ne 14, 3) := by decide +kernel
theorem dX8_says_99 : decode cX8_says 99 = .ok (.iload 4, 2) := by decide +kernel
theorem dX8_says_101 : decode cX8_says 101 = .ok (.bipush 6, 2) := by decide +kernel
theorem dX8_says_103 : decode cX8_says 103 = .ok (.if_icmp .ne 7, 3) := by decide +kernel
theorem dX8_says_106 : decode cX8_says 106 = .ok (.iconst 1, 1) := by decide +kernel
theorem dX8_says_107 : decode cX8_says 107 = .ok (.goto 4, 3) := by decide +kernel
theorem dX8_says_110 : decode cX8_says 110 = .ok (.iconst 0, 1) := by decide +kernel
theorem dX8_says_111 : decode cX8_says 111 = .ok (.istore 5, 2) := by decide +kernel
theorem dX8_says_113 : decode cX8_says 113 = .ok (.iload_n 2, 1) := by decide +kernel
theorem dX8_says_114 : decode cX8_says 114 = .ok (.ifCond .eq 21, 3) := by decide +kernel
theorem dX8_says_117 : decode cX8_says 117 = .ok (.iload_n 2, 1) := by decide +kernel
theorem dX8_says_118 : decode cX8_says 118 = .ok (.iload 4, 2) := by decide +kernel
theorem dX8_says_120 : decode cX8_says 120 = .ok (.if_icmp .eq 15, 3) := by decide +kernel
theorem dX8_says_123 : decode cX8_says 123 = .ok (.iload 5, 2) := by decide +kernel
theorem dX8_says_125 : decode cX8_says 125 = .ok (.ifCond .ne 10, 3) := by decide +kernel
theorem dX8_says_128 : decode cX8_says 128 = .ok (.aload_n 0, 1) := by decide +kernel
theorem dX8_says_129 : decode cX8_says 129 = .ok (.bipush (-2), 2) := by decide +kernel
theorem dX8_says_131 : decode cX8_says 131 = .ok (.invokevirtual 115, 3) := by decide +kernel
theorem dX8_says_134 : decode cX8_says 134 = .ok (.ireturn, 1) := by decide +kernel
theorem dX8_says_135 : decode cX8_says 135 = .ok (.iload_n 2, 1) := by decide +kernel
theorem dX8_says_136 : decode cX8_says 136 = .ok (.tableswitch 72 0 5 #[40, 47, 59, 47, 72, 59], 40) := by decide +kernel
theorem dX8_says_176 : decode cX8_says 176 = .ok (.aload_n 0, 1) := by decide +kernel
theorem dX8_says_177 : decode cX8_says 177 = .ok (.getfield 53, 3) := by decide +kernel
theorem dX8_says_180 : decode cX8_says 180 = .ok (.iload_n 3, 1) := by decide +kernel
theorem dX8_says_181 : decode cX8_says 181 = .ok (.iaload, 1) := by decide +kernel
theorem dX8_says_182 : decode cX8_says 182 = .ok (.ireturn, 1) := by decide +kernel
theorem dX8_says_183 : decode cX8_says 183 = .ok (.iload 4, 2) := by decide +kernel
theorem dX8_says_185 : decode cX8_says 185 = .ok (.iconst 3, 1) := by decide +kernel
theorem dX8_says_186 : decode cX8_says 186 = .ok (.if_icmp .ne 7, 3) := by decide +kernel
theorem dX8_says_189 : decode cX8_says 189 = .ok (.iconst 3, 1) := by decide +kernel
theorem dX8_says_190 : decode cX8_says 190 = .ok (.goto 4, 3) := by decide +kernel
theorem dX8_says_193 : decode cX8_says 193 = .ok (.iconst 2, 1) := by decide +kernel
theorem dX8_says_194 : decode cX8_says 194 = .ok (.ireturn, 1) := by decide +kernel
theorem dX8_says_195 : decode cX8_says 195 = .ok (.aload_n 0, 1) := by decide +kernel
theorem dX8_says_196 : decode cX8_says 196 = .ok (.invokevirtual 122, 3) := by decide +kernel
theorem dX8_says_199 : decode cX8_says 199 = .ok (.ifCond .eq 7, 3) := by decide +kernel
theorem dX8_says_202 : decode cX8_says 202 = .ok (.iconst 1, 1) := by decide +kernel
theorem dX8_says_203 : decode cX8_says 203 = .ok (.goto 4, 3) := by decide +kernel
theorem dX8_says_206 : decode cX8_says 206 = .ok (.iconst 0, 1) := by decide +kernel
theorem dX8_says_207 : decode cX8_says 207 = .ok (.ireturn, 1) := by decide +kernel
theorem dX8_says_208 : decode cX8_says 208 = .ok (.aload_n 0, 1) := by decide +kernel
theorem dX8_says_209 : decode cX8_says 209 = .ok (.iload_n 3, 1) := by decide +kernel
theorem dX8_says_210 : decode cX8_says 210 = .ok (.iconst 0, 1) := by decide +kernel
theorem dX8_says_211 : decode cX8_says 211 = .ok (.invokevirtual 126, 3) := by decide +kernel
theorem dX8_says_214 : decode cX8_says 214 = .ok (.ireturn, 1) := by decide +kernel
theorem zs_says {d : Nat} {h : List zx_C} {w : Int32} {q : Int32} {sh : Int32} {kd : Int32} {fv : Int32} {Q : Option zx_V → List zx_C → Prop} (hI : zx_I h)   (hs : 0 ≤ sh.toInt ∧ sh.toInt ≤ 5) (hq : ∀ (v : Int32) (h2 : List zx_C), zx_I h2 → (∀ i, i ∉ ([64] : List Nat) → h2[i]? = h[i]?) → Q (some (.inl v)) h2) : zx_W none 0 0 (d + 1) zt_136 135 [some (.inr (.inr (1, 63))), some (.inl w), some (.inl q), some (.inl sh), some (.inl kd), some (.inl fv)] [] h Q := by
  have el_0 : (0 : Int32).toInt = 0 := by decide
  have el_1 : (1 : Int32).toInt = 1 := by decide
  have el_2 : (2 : Int32).toInt = 2 := by decide
  have el_3 : (3 : Int32).toInt = 3 := by decide
  obtain ⟨x1, c63_1, m_furlongs1, m_many1, m_bagged1, m_legs1, m_most1, m_nap1, m_on1, m_biscuits1, m_races1, m_worn1, m_here1, m_minutes1, m_seed1, m_fault1, m_base1, m_at1, m_end1, m_number1, m_wrongAt1, m_bestMany1, m_bestHere1, m_bestWorn1, m_bestMinutes1, m_turn1, m_ever1, m_made1, m_ruleHere1, m_ruleMinutes1, m_ruleEver1, m_ran1, m_isKept1, rfl, q0_1, q1_1, q2_1, q3_1, q4_1, q5_1, q6_1, q7_1, q8_1⟩ := zi_g hI 63 (by decide)
  obtain ⟨x2, c69_2, f69_2, rfl, l69_2⟩ := zi_g hI 69 (by decide)
  have fr0 : ∀ i, i ∉ ([64] : List Nat) → h[i]? = h[i]? := fun _ _ => rfl
  refine zx_W_ins (pc' := 136) dX8_says_135 rfl (fun _ => rfl) rfl ?_
  refine zw_tsc (tgd := 208) dX8_says_136 rfl [176, 183, 195, 183, 208, 195] (by decide) (by decide) (fun g3 => ?_) (zl_cons (fun g3 => ?_) (zl_cons (fun g3 => ?_) (zl_cons (fun g3 => ?_) (zl_cons (fun g3 => ?_) (zl_cons (fun g3 => ?_) (zl_cons (fun g3 => ?_) (zl_nil)))))))
  · refine zx_W_ins (pc' := 209) dX8_says_208 rfl (fun _ => rfl) rfl ?_
    refine zx_W_ins (pc' := 210) dX8_says_209 rfl (fun _ => rfl) rfl ?_
    refine zw_ic (v := 0) (pc' := 211) dX8_says_210 rfl rfl ?_
    refine zw_iv (k := 165) (pc' := 214) dX8_says_211 rfl rfl rfl rfl c63_1 rfl rfl (zc_165 hI (by omega) (fun v4 h5 hI6 fr7 _ => ?_))
    show zx_W _ _ _ _ _ _ _ [.inl v4] _ _
    have fr8 : ∀ i, i ∉ ([64] : List Nat) → h5[i]? = h[i]? := fun i hi => Eq.trans (fr7 i (fun z => hi (by first | exact absurd z List.not_mem_nil | (simp only [List.mem_cons, List.not_mem_nil, or_false] at z ⊢; omega)))) (fr0 i hi)
    have c9 : h5[63]? = some (.inl (8, [.inl m_furlongs1, .inl m_many1, .inl m_bagged1, .inl m_legs1, .inl m_most1, .inl m_nap1, .inl m_on1, .inl m_biscuits1, .inl m_races1, .inl m_worn1, .inl m_here1, .inl m_minutes1, .inl m_seed1, .inl m_fault1, .inr (.inr (1, 64)), .inr (.inr (1, 65)), .inr (.inr (1, 66)), .inr (.inr (1, 67)), .inr (.inr (1, 68)), .inr (.inr (1, 69)), .inr (.inr (1, 70)), .inr (.inr (1, 71)), .inr (.inr (1, 72)), .inr (.inr (1, 73)), .inr (.inr (1, 74)), .inr (.inr (1, 75)), .inr (.inr (1, 76)), .inr (.inr (1, 77)), .inr (.inr (1, 78)), .inl m_base1, .inl m_at1, .inl m_end1, .inl m_number1, .inl m_wrongAt1, .inr (.inr (1, 79)), .inr (.inr (1, 80)), .inr (.inr (1, 81)), .inr (.inr (1, 82)), .inr (.inr (1, 83)), .inr (.inr (1, 84)), .inl m_bestMany1, .inl m_bestHere1, .inl m_bestWorn1, .inl m_bestMinutes1, .inl m_turn1, .inl m_ever1, .inl m_made1, .inl m_ruleHere1, .inl m_ruleMinutes1, .inl m_ruleEver1, .inr (.inr (1, 85)), .inl m_ran1, .inl m_isKept1])) := by rw [fr7 63 (by decide)]; exact c63_1
    have c10 : h5[69]? = some (.inr (0, .inl f69_2)) := by rw [fr7 69 (by decide)]; exact c69_2
    refine zw_iret dX8_says_214 rfl rfl ?_
    exact hq _ h5 hI6 fr8
  · refine zx_W_ins (pc' := 177) dX8_says_176 rfl (fun _ => rfl) rfl ?_
    refine zw_gf (pc' := 180) dX8_says_177 rfl rfl c63_1 rfl ?_
    refine zx_W_ins (pc' := 181) dX8_says_180 rfl (fun _ => rfl) rfl ?_
    refine zw_ial (pc' := 182) dX8_says_181 rfl c69_2 (zi_in (by have := l69_2; omega)) ?_
    refine zw_iret dX8_says_182 rfl rfl ?_
    exact hq _ h hI fr0
  · refine zx_W_ins (pc' := 185) dX8_says_183 rfl (fun _ => rfl) rfl ?_
    refine zw_ic (v := 3) (pc' := 186) dX8_says_185 rfl rfl ?_
    refine zw_icmp_ne (tgt := 193) (pc' := 189) dX8_says_186 rfl rfl (fun g11 => ?_) (fun g11 => ?_)
    · have g11t : ¬ (kd).toInt = (3 : Int32).toInt := fun z => g11 (Int32.toInt_inj.mp z)
      refine zw_ic (v := 2) (pc' := 194) dX8_says_193 rfl rfl ?_
      refine zw_iret dX8_says_194 rfl rfl ?_
      exact hq _ h hI fr0
    · have g11t : (kd).toInt = (3 : Int32).toInt := congrArg Int32.toInt g11
      refine zw_ic (v := 3) (pc' := 190) dX8_says_189 rfl rfl ?_
      refine zw_goto (tgt := 194) dX8_says_190 rfl ?_
      refine zw_iret dX8_says_194 rfl rfl ?_
      exact hq _ h hI fr0
  · refine zx_W_ins (pc' := 196) dX8_says_195 rfl (fun _ => rfl) rfl ?_
    refine zw_iv (k := 164) (pc' := 199) dX8_says_196 rfl rfl rfl rfl c63_1 rfl rfl (zc_164 c63_1 (fun g12 _ => ?_) (fun g12 _ => ?_))
    · show zx_W _ _ _ _ _ _ _ [.inl 1] _ _
      refine zw_if_eq (tgt := 206) (pc' := 202) dX8_says_199 rfl rfl (fun g => by first | exact absurd rfl g | exact absurd g (by decide)) (fun _ => ?_)
      refine zw_ic (v := 1) (pc' := 203) dX8_says_202 rfl rfl ?_
      refine zw_goto (tgt := 207) dX8_says_203 rfl ?_
      refine zw_iret dX8_says_207 rfl rfl ?_
      exact hq _ h hI fr0
    · show zx_W _ _ _ _ _ _ _ [.inl 0] _ _
      refine zw_if_eq (tgt := 206) (pc' := 202) dX8_says_199 rfl rfl (fun _ => ?_) (fun g => by first | exact absurd rfl g | exact absurd g (by decide))
      refine zw_ic (v := 0) (pc' := 207) dX8_says_206 rfl rfl ?_
      refine zw_iret dX8_says_207 rfl rfl ?_
      exact hq _ h hI fr0
  · refine zx_W_ins (pc' := 185) dX8_says_183 rfl (fun _ => rfl) rfl ?_
    refine zw_ic (v := 3) (pc' := 186) dX8_says_185 rfl rfl ?_
    refine zw_icmp_ne (tgt := 193) (pc' := 189) dX8_says_186 rfl rfl (fun g15 => ?_) (fun g15 => ?_)
    · have g15t : ¬ (kd).toInt = (3 : Int32).toInt := fun z => g15 (Int32.toInt_inj.mp z)
      refine zw_ic (v := 2) (pc' := 194) dX8_says_193 rfl rfl ?_
      refine zw_iret dX8_says_194 rfl rfl ?_
      exact hq _ h hI fr0
    · have g15t : (kd).toInt = (3 : Int32).toInt := congrArg Int32.toInt g15
      refine zw_ic (v := 3) (pc' := 190) dX8_says_189 rfl rfl ?_
      refine zw_goto (tgt := 194) dX8_says_190 rfl ?_
      refine zw_iret dX8_says_194 rfl rfl ?_
      exact hq _ h hI fr0
  · refine zx_W_ins (pc' := 209) dX8_says_208 rfl (fun _ => rfl) rfl ?_
    refine zx_W_ins (pc' := 210) dX8_says_209 rfl (fun _ => rfl) rfl ?_
    refine zw_ic (v := 0) (pc' := 211) dX8_says_210 rfl rfl ?_
    refine zw_iv (k := 165) (pc' := 214) dX8_says_211 rfl rfl rfl rfl c63_1 rfl rfl (zc_165 hI (by omega) (fun v16 h17 hI18 fr19 _ => ?_))
    show zx_W _ _ _ _ _ _ _ [.inl v16] _ _
    have fr20 : ∀ i, i ∉ ([64] : List Nat) → h17[i]? = h[i]? := fun i hi => Eq.trans (fr19 i (fun z => hi (by first | exact absurd z List.not_mem_nil | (simp only [List.mem_cons, List.not_mem_nil, or_false] at z ⊢; omega)))) (fr0 i hi)
    have c21 : h17[63]? = some (.inl (8, [.inl m_furlongs1, .inl m_many1, .inl m_bagged1, .inl m_legs1, .inl m_most1, .inl m_nap1, .inl m_on1, .inl m_biscuits1, .inl m_races1, .inl m_worn1, .inl m_here1, .inl m_minutes1, .inl m_seed1, .inl m_fault1, .inr (.inr (1, 64)), .inr (.inr (1, 65)), .inr (.inr (1, 66)), .inr (.inr (1, 67)), .inr (.inr (1, 68)), .inr (.inr (1, 69)), .inr (.inr (1, 70)), .inr (.inr (1, 71)), .inr (.inr (1, 72)), .inr (.inr (1, 73)), .inr (.inr (1, 74)), .inr (.inr (1, 75)), .inr (.inr (1, 76)), .inr (.inr (1, 77)), .inr (.inr (1, 78)), .inl m_base1, .inl m_at1, .inl m_end1, .inl m_number1, .inl m_wrongAt1, .inr (.inr (1, 79)), .inr (.inr (1, 80)), .inr (.inr (1, 81)), .inr (.inr (1, 82)), .inr (.inr (1, 83)), .inr (.inr (1, 84)), .inl m_bestMany1, .inl m_bestHere1, .inl m_bestWorn1, .inl m_bestMinutes1, .inl m_turn1, .inl m_ever1, .inl m_made1, .inl m_ruleHere1, .inl m_ruleMinutes1, .inl m_ruleEver1, .inr (.inr (1, 85)), .inl m_ran1, .inl m_isKept1])) := by rw [fr19 63 (by decide)]; exact c63_1
    have c22 : h17[69]? = some (.inr (0, .inl f69_2)) := by rw [fr19 69 (by decide)]; exact c69_2
    refine zw_iret dX8_says_214 rfl rfl ?_
    exact hq _ h17 hI18 fr20
  · refine zx_W_ins (pc' := 196) dX8_says_195 rfl (fun _ => rfl) rfl ?_
    refine zw_iv (k := 164) (pc' := 199) dX8_says_196 rfl rfl rfl rfl c63_1 rfl rfl (zc_164 c63_1 (fun g23 _ => ?_) (fun g23 _ => ?_))
    · show zx_W _ _ _ _ _ _ _ [.inl 1] _ _
      refine zw_if_eq (tgt := 206) (pc' := 202) dX8_says_199 rfl rfl (fun g => by first | exact absurd rfl g | exact absurd g (by decide)) (fun _ => ?_)
      refine zw_ic (v := 1) (pc' := 203) dX8_says_202 rfl rfl ?_
      refine zw_goto (tgt := 207) dX8_says_203 rfl ?_
      refine zw_iret dX8_says_207 rfl rfl ?_
      exact hq _ h hI fr0
    · show zx_W _ _ _ _ _ _ _ [.inl 0] _ _
      refine zw_if_eq (tgt := 206) (pc' := 202) dX8_says_199 rfl rfl (fun _ => ?_) (fun g => by first | exact absurd rfl g | exact absurd g (by decide))
      refine zw_ic (v := 0) (pc' := 207) dX8_says_206 rfl rfl ?_
      refine zw_iret dX8_says_207 rfl rfl ?_
      exact hq _ h hI fr0
theorem zc_136 {d : Nat} {h : List zx_C} {w : Int32} {q : Int32} {Q : Option zx_V → List zx_C → Prop} (hI : zx_I h)    (hq : ∀ (v : Int32) (h2 : List zx_C), zx_I h2 → (∀ i, i ∉ ([64] : List Nat) → h2[i]? = h[i]?) → Q (some (.inl v)) h2) : zx_M (d + 1) 136 [.inr (.inr (1, 63)), .inl w, .inl q] h Q := by
  have el_m3 : ((-3) : Int32).toInt = -3 := by decide
  have el_m2 : ((-2) : Int32).toInt = -2 := by decide
  have el_m1 : ((-1) : Int32).toInt = -1 := by decide
  have el_0 : (0 : Int32).toInt = 0 := by decide
  have el_1 : (1 : Int32).toInt = 1 := by decide
  have el_2 : (2 : Int32).toInt = 2 := by decide
  have el_3 : (3 : Int32).toInt = 3 := by decide
  have el_4 : (4 : Int32).toInt = 4 := by decide
  have el_5 : (5 : Int32).toInt = 5 := by decide
  have el_6 : (6 : Int32).toInt = 6 := by decide
  obtain ⟨x1, c63_1, m_furlongs1, m_many1, m_bagged1, m_legs1, m_most1, m_nap1, m_on1, m_biscuits1, m_races1, m_worn1, m_here1, m_minutes1, m_seed1, m_fault1, m_base1, m_at1, m_end1, m_number1, m_wrongAt1, m_bestMany1, m_bestHere1, m_bestWorn1, m_bestMinutes1, m_turn1, m_ever1, m_made1, m_ruleHere1, m_ruleMinutes1, m_ruleEver1, m_ran1, m_isKept1, rfl, q0_1, q1_1, q2_1, q3_1, q4_1, q5_1, q6_1, q7_1, q8_1⟩ := zi_g hI 63 (by decide)
  obtain ⟨x2, c67_2, f67_2, rfl, l67_2, b67_2⟩ := zi_g hI 67 (by decide)
  obtain ⟨x3, c70_3, f70_3, rfl, l70_3, b70_3⟩ := zi_g hI 70 (by decide)
  obtain ⟨x4, c73_4, f73_4, rfl, l73_4⟩ := zi_g hI 73 (by decide)
  have fr0 : ∀ i, i ∉ ([64] : List Nat) → h[i]? = h[i]? := fun _ _ => rfl
  refine zx_M_of (Nat.le_of_ble_eq_true rfl) zm_136 (L := [some (.inr (.inr (1, 63))), some (.inl w), some (.inl q), none, none, none]) rfl ?_
  refine zx_W_ins (pc' := 1) dX8_says_0 rfl (fun _ => rfl) rfl ?_
  refine zx_W_ins (pc' := 2) dX8_says_1 rfl (fun _ => rfl) rfl ?_
  refine zw_iv (k := 127) (pc' := 5) dX8_says_2 rfl rfl rfl rfl c63_1 rfl rfl (zc_127 (fun g5 _ => ?_) (fun g5 _ => ?_))
  · show zx_W _ _ _ _ _ _ _ [.inl 1] _ _
    refine zw_if_eq (tgt := 18) (pc' := 8) dX8_says_5 rfl rfl (fun g => by first | exact absurd rfl g | exact absurd g (by decide)) (fun _ => ?_)
    refine zx_W_ins (pc' := 9) dX8_says_8 rfl (fun _ => rfl) rfl ?_
    refine zw_if_lt (tgt := 18) (pc' := 12) dX8_says_9 rfl rfl (fun g7 => ?_) (fun g7 => ?_)
    · refine zx_W_ins (pc' := 19) dX8_says_18 rfl (fun _ => rfl) rfl ?_
      refine zw_ic (v := (-1)) (pc' := 20) dX8_says_19 rfl rfl ?_
      refine zw_iv (k := 125) (pc' := 23) dX8_says_20 rfl rfl rfl rfl c63_1 rfl rfl (zc_125 hI (by omega) (fun v8 h9 hI10 fr11 hvv8 _ => ?_))
      show zx_W _ _ _ _ _ _ _ [.inl v8] _ _
      have fr12 : ∀ i, i ∉ ([64] : List Nat) → h9[i]? = h[i]? := fun i hi => Eq.trans (fr11 i (fun z => hi (by first | exact absurd z List.not_mem_nil | (simp only [List.mem_cons, List.not_mem_nil, or_false] at z ⊢; omega)))) (fr0 i hi)
      have c13 : h9[63]? = some (.inl (8, [.inl m_furlongs1, .inl m_many1, .inl m_bagged1, .inl m_legs1, .inl m_most1, .inl m_nap1, .inl m_on1, .inl m_biscuits1, .inl m_races1, .inl m_worn1, .inl m_here1, .inl m_minutes1, .inl m_seed1, .inl m_fault1, .inr (.inr (1, 64)), .inr (.inr (1, 65)), .inr (.inr (1, 66)), .inr (.inr (1, 67)), .inr (.inr (1, 68)), .inr (.inr (1, 69)), .inr (.inr (1, 70)), .inr (.inr (1, 71)), .inr (.inr (1, 72)), .inr (.inr (1, 73)), .inr (.inr (1, 74)), .inr (.inr (1, 75)), .inr (.inr (1, 76)), .inr (.inr (1, 77)), .inr (.inr (1, 78)), .inl m_base1, .inl m_at1, .inl m_end1, .inl m_number1, .inl m_wrongAt1, .inr (.inr (1, 79)), .inr (.inr (1, 80)), .inr (.inr (1, 81)), .inr (.inr (1, 82)), .inr (.inr (1, 83)), .inr (.inr (1, 84)), .inl m_bestMany1, .inl m_bestHere1, .inl m_bestWorn1, .inl m_bestMinutes1, .inl m_turn1, .inl m_ever1, .inl m_made1, .inl m_ruleHere1, .inl m_ruleMinutes1, .inl m_ruleEver1, .inr (.inr (1, 85)), .inl m_ran1, .inl m_isKept1])) := by rw [fr11 63 (by decide)]; exact c63_1
      have c14 : h9[67]? = some (.inr (0, .inl f67_2)) := by rw [fr11 67 (by decide)]; exact c67_2
      have c15 : h9[70]? = some (.inr (0, .inl f70_3)) := by rw [fr11 70 (by decide)]; exact c70_3
      have c16 : h9[73]? = some (.inr (0, .inl f73_4)) := by rw [fr11 73 (by decide)]; exact c73_4
      obtain ⟨x17, c64_17, f64_17, rfl, l64_17⟩ := zi_g hI10 64 (by decide)
      refine zw_iret dX8_says_23 rfl rfl ?_
      exact hq _ h9 hI10 fr12
    · refine zx_W_ins (pc' := 13) dX8_says_12 rfl (fun _ => rfl) rfl ?_
      refine zw_bi (v := 6) (pc' := 15) dX8_says_13 rfl rfl ?_
      refine zw_icmp_le (tgt := 24) (pc' := 18) dX8_says_15 rfl rfl (fun g18 => ?_) (fun g18 => ?_)
      · refine zx_W_ins (pc' := 25) dX8_says_24 rfl (fun _ => rfl) rfl ?_
        refine zw_gf (pc' := 28) dX8_says_25 rfl rfl c63_1 rfl ?_
        refine zx_W_ins (pc' := 29) dX8_says_28 rfl (fun _ => rfl) rfl ?_
        refine zw_ial (pc' := 30) dX8_says_29 rfl c70_3 (zi_in (by have := l70_3; omega)) ?_
        have bb19 := b70_3 w.toNatClampNeg (by have := (zi_in (x := w) (n := 8) (by omega)).2; omega)
        refine zw_ic (v := 1) (pc' := 31) dX8_says_30 rfl rfl ?_
        refine zw_icmp_ne (tgt := 41) (pc' := 34) dX8_says_31 rfl rfl (fun g20 => ?_) (fun g20 => ?_)
        · have g20t : ¬ ((f70_3.getD w.toNatClampNeg 0)).toInt = (1 : Int32).toInt := fun z => g20 (Int32.toInt_inj.mp z)
          refine zx_W_ins (pc' := 42) dX8_says_41 rfl (fun _ => rfl) rfl ?_
          refine zw_gf (pc' := 45) dX8_says_42 rfl rfl c63_1 rfl ?_
          refine zx_W_ins (pc' := 46) dX8_says_45 rfl (fun _ => rfl) rfl ?_
          refine zw_ial (pc' := 47) dX8_says_46 rfl c70_3 (zi_in (by have := l70_3; omega)) ?_
          have bb21 := b70_3 w.toNatClampNeg (by have := (zi_in (x := w) (n := 8) (by omega)).2; omega)
          refine zw_if_ne (tgt := 57) (pc' := 50) dX8_says_47 rfl rfl (fun g22 => ?_) (fun g22 => ?_)
          · have g22t : ¬ ((f70_3.getD w.toNatClampNeg 0)).toInt = (0 : Int32).toInt := fun z => g22 (Int32.toInt_inj.mp z)
            refine zx_W_ins (pc' := 58) dX8_says_57 rfl (fun _ => rfl) rfl ?_
            refine zw_gf (pc' := 61) dX8_says_58 rfl rfl c63_1 rfl ?_
            refine zx_W_ins (pc' := 62) dX8_says_61 rfl (fun _ => rfl) rfl ?_
            have hsh := hI.2.2 _ _ c70_3 c73_4 w.toNatClampNeg (zi_in (x := w) (n := 8) (by omega)).2 (Int32.toInt_inj.mp (by rw [el_2]; omega))
            refine zw_ial (pc' := 63) dX8_says_62 rfl c73_4 (zi_in (by have := l73_4; omega)) ?_
            refine zx_W_ins (pc' := 64) (L' := [some (.inr (.inr (1, 63))), some (.inl w), some (.inl q), some (.inl (f73_4.getD w.toNatClampNeg 0)), none, none]) dX8_says_63 rfl (fun _ => rfl) rfl ?_
            refine zx_W_ins (pc' := 65) dX8_says_64 rfl (fun _ => rfl) rfl ?_
            refine zw_gf (pc' := 68) dX8_says_65 rfl rfl c63_1 rfl ?_
            refine zx_W_ins (pc' := 69) dX8_says_68 rfl (fun _ => rfl) rfl ?_
            refine zw_ial (pc' := 70) dX8_says_69 rfl c67_2 (zi_in (by have := l67_2; omega)) ?_
            have bb23 := b67_2 (f73_4.getD w.toNatClampNeg 0).toNatClampNeg (by have := (zi_in (x := (f73_4.getD w.toNatClampNeg 0)) (n := 6) (by omega)).2; omega)
            refine zx_W_ins (pc' := 72) (L' := [some (.inr (.inr (1, 63))), some (.inl w), some (.inl q), some (.inl (f73_4.getD w.toNatClampNeg 0)), some (.inl (f67_2.getD (f73_4.getD w.toNatClampNeg 0).toNatClampNeg 0)), none]) dX8_says_70 rfl (fun _ => rfl) rfl ?_
            refine zx_W_ins (pc' := 73) dX8_says_72 rfl (fun _ => rfl) rfl ?_
            refine zw_ic (v := 1) (pc' := 74) dX8_says_73 rfl rfl ?_
            refine zw_icmp_ne (tgt := 83) (pc' := 77) dX8_says_74 rfl rfl (fun g24 => ?_) (fun g24 => ?_)
            · have g24t : ¬ (q).toInt = (1 : Int32).toInt := fun z => g24 (Int32.toInt_inj.mp z)
              refine zx_W_ins (pc' := 84) dX8_says_83 rfl (fun _ => rfl) rfl ?_
              refine zw_ic (v := 2) (pc' := 85) dX8_says_84 rfl rfl ?_
              refine zw_icmp_ne (tgt := 94) (pc' := 88) dX8_says_85 rfl rfl (fun g25 => ?_) (fun g25 => ?_)
              · have g25t : ¬ (q).toInt = (2 : Int32).toInt := fun z => g25 (Int32.toInt_inj.mp z)
                refine zx_W_ins (pc' := 95) dX8_says_94 rfl (fun _ => rfl) rfl ?_
                refine zw_ic (v := 4) (pc' := 96) dX8_says_95 rfl rfl ?_
                refine zw_icmp_ne (tgt := 110) (pc' := 99) dX8_says_96 rfl rfl (fun g26 => ?_) (fun g26 => ?_)
                · have g26t : ¬ (q).toInt = (4 : Int32).toInt := fun z => g26 (Int32.toInt_inj.mp z)
                  refine zw_ic (v := 0) (pc' := 111) dX8_says_110 rfl rfl ?_
                  refine zx_W_ins (pc' := 113) (L' := [some (.inr (.inr (1, 63))), some (.inl w), some (.inl q), some (.inl (f73_4.getD w.toNatClampNeg 0)), some (.inl (f67_2.getD (f73_4.getD w.toNatClampNeg 0).toNatClampNeg 0)), some (.inl 0)]) dX8_says_111 rfl (fun _ => rfl) rfl ?_
                  refine zx_W_ins (pc' := 114) dX8_says_113 rfl (fun _ => rfl) rfl ?_
                  refine zw_if_eq (tgt := 135) (pc' := 117) dX8_says_114 rfl rfl (fun g27 => ?_) (fun g27 => ?_)
                  · have g27t : (q).toInt = (0 : Int32).toInt := congrArg Int32.toInt g27
                    exact zs_says hI (by omega) hq
                  · have g27t : ¬ (q).toInt = (0 : Int32).toInt := fun z => g27 (Int32.toInt_inj.mp z)
                    refine zx_W_ins (pc' := 118) dX8_says_117 rfl (fun _ => rfl) rfl ?_
                    refine zx_W_ins (pc' := 120) dX8_says_118 rfl (fun _ => rfl) rfl ?_
                    refine zw_icmp_eq (tgt := 135) (pc' := 123) dX8_says_120 rfl rfl (fun g28 => ?_) (fun g28 => ?_)
                    · have g28t : (q).toInt = ((f67_2.getD (f73_4.getD w.toNatClampNeg 0).toNatClampNeg 0) : Int32).toInt := congrArg Int32.toInt g28
                      exact zs_says hI (by omega) hq
                    · have g28t : ¬ (q).toInt = ((f67_2.getD (f73_4.getD w.toNatClampNeg 0).toNatClampNeg 0) : Int32).toInt := fun z => g28 (Int32.toInt_inj.mp z)
                      refine zx_W_ins (pc' := 125) dX8_says_123 rfl (fun _ => rfl) rfl ?_
                      refine zw_if_ne (tgt := 135) (pc' := 128) dX8_says_125 rfl rfl (fun g => by first | exact absurd rfl g | exact absurd g (by decide)) (fun _ => ?_)
                      refine zx_W_ins (pc' := 129) dX8_says_128 rfl (fun _ => rfl) rfl ?_
                      refine zw_bi (v := (-2)) (pc' := 131) dX8_says_129 rfl rfl ?_
                      refine zw_iv (k := 125) (pc' := 134) dX8_says_131 rfl rfl rfl rfl c63_1 rfl rfl (zc_125 hI (by omega) (fun v30 h31 hI32 fr33 hvv30 _ => ?_))
                      show zx_W _ _ _ _ _ _ _ [.inl v30] _ _
                      have fr34 : ∀ i, i ∉ ([64] : List Nat) → h31[i]? = h[i]? := fun i hi => Eq.trans (fr33 i (fun z => hi (by first | exact absurd z List.not_mem_nil | (simp only [List.mem_cons, List.not_mem_nil, or_false] at z ⊢; omega)))) (fr0 i hi)
                      have c35 : h31[63]? = some (.inl (8, [.inl m_furlongs1, .inl m_many1, .inl m_bagged1, .inl m_legs1, .inl m_most1, .inl m_nap1, .inl m_on1, .inl m_biscuits1, .inl m_races1, .inl m_worn1, .inl m_here1, .inl m_minutes1, .inl m_seed1, .inl m_fault1, .inr (.inr (1, 64)), .inr (.inr (1, 65)), .inr (.inr (1, 66)), .inr (.inr (1, 67)), .inr (.inr (1, 68)), .inr (.inr (1, 69)), .inr (.inr (1, 70)), .inr (.inr (1, 71)), .inr (.inr (1, 72)), .inr (.inr (1, 73)), .inr (.inr (1, 74)), .inr (.inr (1, 75)), .inr (.inr (1, 76)), .inr (.inr (1, 77)), .inr (.inr (1, 78)), .inl m_base1, .inl m_at1, .inl m_end1, .inl m_number1, .inl m_wrongAt1, .inr (.inr (1, 79)), .inr (.inr (1, 80)), .inr (.inr (1, 81)), .inr (.inr (1, 82)), .inr (.inr (1, 83)), .inr (.inr (1, 84)), .inl m_bestMany1, .inl m_bestHere1, .inl m_bestWorn1, .inl m_bestMinutes1, .inl m_turn1, .inl m_ever1, .inl m_made1, .inl m_ruleHere1, .inl m_ruleMinutes1, .inl m_ruleEver1, .inr (.inr (1, 85)), .inl m_ran1, .inl m_isKept1])) := by rw [fr33 63 (by decide)]; exact c63_1
                      have c36 : h31[67]? = some (.inr (0, .inl f67_2)) := by rw [fr33 67 (by decide)]; exact c67_2
                      have c37 : h31[70]? = some (.inr (0, .inl f70_3)) := by rw [fr33 70 (by decide)]; exact c70_3
                      have c38 : h31[73]? = some (.inr (0, .inl f73_4)) := by rw [fr33 73 (by decide)]; exact c73_4
                      obtain ⟨x39, c64_39, f64_39, rfl, l64_39⟩ := zi_g hI32 64 (by decide)
                      refine zw_iret dX8_says_134 rfl rfl ?_
                      exact hq _ h31 hI32 fr34
                · have g26t : (q).toInt = (4 : Int32).toInt := congrArg Int32.toInt g26
                  refine zx_W_ins (pc' := 101) dX8_says_99 rfl (fun _ => rfl) rfl ?_
                  refine zw_bi (v := 6) (pc' := 103) dX8_says_101 rfl rfl ?_
                  refine zw_icmp_ne (tgt := 110) (pc' := 106) dX8_says_103 rfl rfl (fun g40 => ?_) (fun g40 => ?_)
                  · have g40t : ¬ ((f67_2.getD (f73_4.getD w.toNatClampNeg 0).toNatClampNeg 0)).toInt = (6 : Int32).toInt := fun z => g40 (Int32.toInt_inj.mp z)
                    refine zw_ic (v := 0) (pc' := 111) dX8_says_110 rfl rfl ?_
                    refine zx_W_ins (pc' := 113) (L' := [some (.inr (.inr (1, 63))), some (.inl w), some (.inl q), some (.inl (f73_4.getD w.toNatClampNeg 0)), some (.inl (f67_2.getD (f73_4.getD w.toNatClampNeg 0).toNatClampNeg 0)), some (.inl 0)]) dX8_says_111 rfl (fun _ => rfl) rfl ?_
                    refine zx_W_ins (pc' := 114) dX8_says_113 rfl (fun _ => rfl) rfl ?_
                    refine zw_if_eq (tgt := 135) (pc' := 117) dX8_says_114 rfl rfl (fun g41 => ?_) (fun g41 => ?_)
                    · have g41t : (q).toInt = (0 : Int32).toInt := congrArg Int32.toInt g41
                      exact zs_says hI (by omega) hq
                    · have g41t : ¬ (q).toInt = (0 : Int32).toInt := fun z => g41 (Int32.toInt_inj.mp z)
                      refine zx_W_ins (pc' := 118) dX8_says_117 rfl (fun _ => rfl) rfl ?_
                      refine zx_W_ins (pc' := 120) dX8_says_118 rfl (fun _ => rfl) rfl ?_
                      refine zw_icmp_eq (tgt := 135) (pc' := 123) dX8_says_120 rfl rfl (fun g42 => ?_) (fun g42 => ?_)
                      · have g42t : (q).toInt = ((f67_2.getD (f73_4.getD w.toNatClampNeg 0).toNatClampNeg 0) : Int32).toInt := congrArg Int32.toInt g42
                        exact zs_says hI (by omega) hq
                      · have g42t : ¬ (q).toInt = ((f67_2.getD (f73_4.getD w.toNatClampNeg 0).toNatClampNeg 0) : Int32).toInt := fun z => g42 (Int32.toInt_inj.mp z)
                        refine zx_W_ins (pc' := 125) dX8_says_123 rfl (fun _ => rfl) rfl ?_
                        refine zw_if_ne (tgt := 135) (pc' := 128) dX8_says_125 rfl rfl (fun g => by first | exact absurd rfl g | exact absurd g (by decide)) (fun _ => ?_)
                        refine zx_W_ins (pc' := 129) dX8_says_128 rfl (fun _ => rfl) rfl ?_
                        refine zw_bi (v := (-2)) (pc' := 131) dX8_says_129 rfl rfl ?_
                        refine zw_iv (k := 125) (pc' := 134) dX8_says_131 rfl rfl rfl rfl c63_1 rfl rfl (zc_125 hI (by omega) (fun v44 h45 hI46 fr47 hvv44 _ => ?_))
                        show zx_W _ _ _ _ _ _ _ [.inl v44] _ _
                        have fr48 : ∀ i, i ∉ ([64] : List Nat) → h45[i]? = h[i]? := fun i hi => Eq.trans (fr47 i (fun z => hi (by first | exact absurd z List.not_mem_nil | (simp only [List.mem_cons, List.not_mem_nil, or_false] at z ⊢; omega)))) (fr0 i hi)
                        have c49 : h45[63]? = some (.inl (8, [.inl m_furlongs1, .inl m_many1, .inl m_bagged1, .inl m_legs1, .inl m_most1, .inl m_nap1, .inl m_on1, .inl m_biscuits1, .inl m_races1, .inl m_worn1, .inl m_here1, .inl m_minutes1, .inl m_seed1, .inl m_fault1, .inr (.inr (1, 64)), .inr (.inr (1, 65)), .inr (.inr (1, 66)), .inr (.inr (1, 67)), .inr (.inr (1, 68)), .inr (.inr (1, 69)), .inr (.inr (1, 70)), .inr (.inr (1, 71)), .inr (.inr (1, 72)), .inr (.inr (1, 73)), .inr (.inr (1, 74)), .inr (.inr (1, 75)), .inr (.inr (1, 76)), .inr (.inr (1, 77)), .inr (.inr (1, 78)), .inl m_base1, .inl m_at1, .inl m_end1, .inl m_number1, .inl m_wrongAt1, .inr (.inr (1, 79)), .inr (.inr (1, 80)), .inr (.inr (1, 81)), .inr (.inr (1, 82)), .inr (.inr (1, 83)), .inr (.inr (1, 84)), .inl m_bestMany1, .inl m_bestHere1, .inl m_bestWorn1, .inl m_bestMinutes1, .inl m_turn1, .inl m_ever1, .inl m_made1, .inl m_ruleHere1, .inl m_ruleMinutes1, .inl m_ruleEver1, .inr (.inr (1, 85)), .inl m_ran1, .inl m_isKept1])) := by rw [fr47 63 (by decide)]; exact c63_1
                        have c50 : h45[67]? = some (.inr (0, .inl f67_2)) := by rw [fr47 67 (by decide)]; exact c67_2
                        have c51 : h45[70]? = some (.inr (0, .inl f70_3)) := by rw [fr47 70 (by decide)]; exact c70_3
                        have c52 : h45[73]? = some (.inr (0, .inl f73_4)) := by rw [fr47 73 (by decide)]; exact c73_4
                        obtain ⟨x53, c64_53, f64_53, rfl, l64_53⟩ := zi_g hI46 64 (by decide)
                        refine zw_iret dX8_says_134 rfl rfl ?_
                        exact hq _ h45 hI46 fr48
                  · have g40t : ((f67_2.getD (f73_4.getD w.toNatClampNeg 0).toNatClampNeg 0)).toInt = (6 : Int32).toInt := congrArg Int32.toInt g40
                    refine zw_ic (v := 1) (pc' := 107) dX8_says_106 rfl rfl ?_
                    refine zw_goto (tgt := 111) dX8_says_107 rfl ?_
                    refine zx_W_ins (pc' := 113) (L' := [some (.inr (.inr (1, 63))), some (.inl w), some (.inl q), some (.inl (f73_4.getD w.toNatClampNeg 0)), some (.inl (f67_2.getD (f73_4.getD w.toNatClampNeg 0).toNatClampNeg 0)), some (.inl 1)]) dX8_says_111 rfl (fun _ => rfl) rfl ?_
                    refine zx_W_ins (pc' := 114) dX8_says_113 rfl (fun _ => rfl) rfl ?_
                    refine zw_if_eq (tgt := 135) (pc' := 117) dX8_says_114 rfl rfl (fun g54 => ?_) (fun g54 => ?_)
                    · have g54t : (q).toInt = (0 : Int32).toInt := congrArg Int32.toInt g54
                      exact zs_says hI (by omega) hq
                    · have g54t : ¬ (q).toInt = (0 : Int32).toInt := fun z => g54 (Int32.toInt_inj.mp z)
                      refine zx_W_ins (pc' := 118) dX8_says_117 rfl (fun _ => rfl) rfl ?_
                      refine zx_W_ins (pc' := 120) dX8_says_118 rfl (fun _ => rfl) rfl ?_
                      refine zw_icmp_eq (tgt := 135) (pc' := 123) dX8_says_120 rfl rfl (fun g55 => ?_) (fun g55 => ?_)
                      · have g55t : (q).toInt = ((f67_2.getD (f73_4.getD w.toNatClampNeg 0).toNatClampNeg 0) : Int32).toInt := congrArg Int32.toInt g55
                        exact zs_says hI (by omega) hq
                      · have g55t : ¬ (q).toInt = ((f67_2.getD (f73_4.getD w.toNatClampNeg 0).toNatClampNeg 0) : Int32).toInt := fun z => g55 (Int32.toInt_inj.mp z)
                        refine zx_W_ins (pc' := 125) dX8_says_123 rfl (fun _ => rfl) rfl ?_
                        refine zw_if_ne (tgt := 135) (pc' := 128) dX8_says_125 rfl rfl (fun _ => ?_) (fun g => by first | exact absurd rfl g | exact absurd g (by decide))
                        exact zs_says hI (by omega) hq
              · have g25t : (q).toInt = (2 : Int32).toInt := congrArg Int32.toInt g25
                refine zx_W_ins (pc' := 90) dX8_says_88 rfl (fun _ => rfl) rfl ?_
                refine zw_ic (v := 5) (pc' := 91) dX8_says_90 rfl rfl ?_
                refine zw_icmp_eq (tgt := 106) (pc' := 94) dX8_says_91 rfl rfl (fun g57 => ?_) (fun g57 => ?_)
                · have g57t : ((f67_2.getD (f73_4.getD w.toNatClampNeg 0).toNatClampNeg 0)).toInt = (5 : Int32).toInt := congrArg Int32.toInt g57
                  refine zw_ic (v := 1) (pc' := 107) dX8_says_106 rfl rfl ?_
                  refine zw_goto (tgt := 111) dX8_says_107 rfl ?_
                  refine zx_W_ins (pc' := 113) (L' := [some (.inr (.inr (1, 63))), some (.inl w), some (.inl q), some (.inl (f73_4.getD w.toNatClampNeg 0)), some (.inl (f67_2.getD (f73_4.getD w.toNatClampNeg 0).toNatClampNeg 0)), some (.inl 1)]) dX8_says_111 rfl (fun _ => rfl) rfl ?_
                  refine zx_W_ins (pc' := 114) dX8_says_113 rfl (fun _ => rfl) rfl ?_
                  refine zw_if_eq (tgt := 135) (pc' := 117) dX8_says_114 rfl rfl (fun g58 => ?_) (fun g58 => ?_)
                  · have g58t : (q).toInt = (0 : Int32).toInt := congrArg Int32.toInt g58
                    exact zs_says hI (by omega) hq
                  · have g58t : ¬ (q).toInt = (0 : Int32).toInt := fun z => g58 (Int32.toInt_inj.mp z)
                    refine zx_W_ins (pc' := 118) dX8_says_117 rfl (fun _ => rfl) rfl ?_
                    refine zx_W_ins (pc' := 120) dX8_says_118 rfl (fun _ => rfl) rfl ?_
                    refine zw_icmp_eq (tgt := 135) (pc' := 123) dX8_says_120 rfl rfl (fun g59 => ?_) (fun g59 => ?_)
                    · have g59t : (q).toInt = ((f67_2.getD (f73_4.getD w.toNatClampNeg 0).toNatClampNeg 0) : Int32).toInt := congrArg Int32.toInt g59
                      exact zs_says hI (by omega) hq
                    · have g59t : ¬ (q).toInt = ((f67_2.getD (f73_4.getD w.toNatClampNeg 0).toNatClampNeg 0) : Int32).toInt := fun z => g59 (Int32.toInt_inj.mp z)
                      refine zx_W_ins (pc' := 125) dX8_says_123 rfl (fun _ => rfl) rfl ?_
                      refine zw_if_ne (tgt := 135) (pc' := 128) dX8_says_125 rfl rfl (fun _ => ?_) (fun g => by first | exact absurd rfl g | exact absurd g (by decide))
                      exact zs_says hI (by omega) hq
                · have g57t : ¬ ((f67_2.getD (f73_4.getD w.toNatClampNeg 0).toNatClampNeg 0)).toInt = (5 : Int32).toInt := fun z => g57 (Int32.toInt_inj.mp z)
                  refine zx_W_ins (pc' := 95) dX8_says_94 rfl (fun _ => rfl) rfl ?_
                  refine zw_ic (v := 4) (pc' := 96) dX8_says_95 rfl rfl ?_
                  refine zw_icmp_ne (tgt := 110) (pc' := 99) dX8_says_96 rfl rfl (fun g61 => ?_) (fun g61 => ?_)
                  · have g61t : ¬ (q).toInt = (4 : Int32).toInt := fun z => g61 (Int32.toInt_inj.mp z)
                    refine zw_ic (v := 0) (pc' := 111) dX8_says_110 rfl rfl ?_
                    refine zx_W_ins (pc' := 113) (L' := [some (.inr (.inr (1, 63))), some (.inl w), some (.inl q), some (.inl (f73_4.getD w.toNatClampNeg 0)), some (.inl (f67_2.getD (f73_4.getD w.toNatClampNeg 0).toNatClampNeg 0)), some (.inl 0)]) dX8_says_111 rfl (fun _ => rfl) rfl ?_
                    refine zx_W_ins (pc' := 114) dX8_says_113 rfl (fun _ => rfl) rfl ?_
                    refine zw_if_eq (tgt := 135) (pc' := 117) dX8_says_114 rfl rfl (fun g62 => ?_) (fun g62 => ?_)
                    · have g62t : (q).toInt = (0 : Int32).toInt := congrArg Int32.toInt g62
                      exact zs_says hI (by omega) hq
                    · have g62t : ¬ (q).toInt = (0 : Int32).toInt := fun z => g62 (Int32.toInt_inj.mp z)
                      refine zx_W_ins (pc' := 118) dX8_says_117 rfl (fun _ => rfl) rfl ?_
                      refine zx_W_ins (pc' := 120) dX8_says_118 rfl (fun _ => rfl) rfl ?_
                      refine zw_icmp_eq (tgt := 135) (pc' := 123) dX8_says_120 rfl rfl (fun g63 => ?_) (fun g63 => ?_)
                      · have g63t : (q).toInt = ((f67_2.getD (f73_4.getD w.toNatClampNeg 0).toNatClampNeg 0) : Int32).toInt := congrArg Int32.toInt g63
                        exact zs_says hI (by omega) hq
                      · have g63t : ¬ (q).toInt = ((f67_2.getD (f73_4.getD w.toNatClampNeg 0).toNatClampNeg 0) : Int32).toInt := fun z => g63 (Int32.toInt_inj.mp z)
                        refine zx_W_ins (pc' := 125) dX8_says_123 rfl (fun _ => rfl) rfl ?_
                        refine zw_if_ne (tgt := 135) (pc' := 128) dX8_says_125 rfl rfl (fun g => by first | exact absurd rfl g | exact absurd g (by decide)) (fun _ => ?_)
                        refine zx_W_ins (pc' := 129) dX8_says_128 rfl (fun _ => rfl) rfl ?_
                        refine zw_bi (v := (-2)) (pc' := 131) dX8_says_129 rfl rfl ?_
                        refine zw_iv (k := 125) (pc' := 134) dX8_says_131 rfl rfl rfl rfl c63_1 rfl rfl (zc_125 hI (by omega) (fun v65 h66 hI67 fr68 hvv65 _ => ?_))
                        show zx_W _ _ _ _ _ _ _ [.inl v65] _ _
                        have fr69 : ∀ i, i ∉ ([64] : List Nat) → h66[i]? = h[i]? := fun i hi => Eq.trans (fr68 i (fun z => hi (by first | exact absurd z List.not_mem_nil | (simp only [List.mem_cons, List.not_mem_nil, or_false] at z ⊢; omega)))) (fr0 i hi)
                        have c70 : h66[63]? = some (.inl (8, [.inl m_furlongs1, .inl m_many1, .inl m_bagged1, .inl m_legs1, .inl m_most1, .inl m_nap1, .inl m_on1, .inl m_biscuits1, .inl m_races1, .inl m_worn1, .inl m_here1, .inl m_minutes1, .inl m_seed1, .inl m_fault1, .inr (.inr (1, 64)), .inr (.inr (1, 65)), .inr (.inr (1, 66)), .inr (.inr (1, 67)), .inr (.inr (1, 68)), .inr (.inr (1, 69)), .inr (.inr (1, 70)), .inr (.inr (1, 71)), .inr (.inr (1, 72)), .inr (.inr (1, 73)), .inr (.inr (1, 74)), .inr (.inr (1, 75)), .inr (.inr (1, 76)), .inr (.inr (1, 77)), .inr (.inr (1, 78)), .inl m_base1, .inl m_at1, .inl m_end1, .inl m_number1, .inl m_wrongAt1, .inr (.inr (1, 79)), .inr (.inr (1, 80)), .inr (.inr (1, 81)), .inr (.inr (1, 82)), .inr (.inr (1, 83)), .inr (.inr (1, 84)), .inl m_bestMany1, .inl m_bestHere1, .inl m_bestWorn1, .inl m_bestMinutes1, .inl m_turn1, .inl m_ever1, .inl m_made1, .inl m_ruleHere1, .inl m_ruleMinutes1, .inl m_ruleEver1, .inr (.inr (1, 85)), .inl m_ran1, .inl m_isKept1])) := by rw [fr68 63 (by decide)]; exact c63_1
                        have c71 : h66[67]? = some (.inr (0, .inl f67_2)) := by rw [fr68 67 (by decide)]; exact c67_2
                        have c72 : h66[70]? = some (.inr (0, .inl f70_3)) := by rw [fr68 70 (by decide)]; exact c70_3
                        have c73 : h66[73]? = some (.inr (0, .inl f73_4)) := by rw [fr68 73 (by decide)]; exact c73_4
                        obtain ⟨x74, c64_74, f64_74, rfl, l64_74⟩ := zi_g hI67 64 (by decide)
                        refine zw_iret dX8_says_134 rfl rfl ?_
                        exact hq _ h66 hI67 fr69
                  · have g61t : (q).toInt = (4 : Int32).toInt := congrArg Int32.toInt g61
                    refine zx_W_ins (pc' := 101) dX8_says_99 rfl (fun _ => rfl) rfl ?_
                    refine zw_bi (v := 6) (pc' := 103) dX8_says_101 rfl rfl ?_
                    refine zw_icmp_ne (tgt := 110) (pc' := 106) dX8_says_103 rfl rfl (fun g75 => ?_) (fun g75 => ?_)
                    · have g75t : ¬ ((f67_2.getD (f73_4.getD w.toNatClampNeg 0).toNatClampNeg 0)).toInt = (6 : Int32).toInt := fun z => g75 (Int32.toInt_inj.mp z)
                      refine zw_ic (v := 0) (pc' := 111) dX8_says_110 rfl rfl ?_
                      refine zx_W_ins (pc' := 113) (L' := [some (.inr (.inr (1, 63))), some (.inl w), some (.inl q), some (.inl (f73_4.getD w.toNatClampNeg 0)), some (.inl (f67_2.getD (f73_4.getD w.toNatClampNeg 0).toNatClampNeg 0)), some (.inl 0)]) dX8_says_111 rfl (fun _ => rfl) rfl ?_
                      refine zx_W_ins (pc' := 114) dX8_says_113 rfl (fun _ => rfl) rfl ?_
                      refine zw_if_eq (tgt := 135) (pc' := 117) dX8_says_114 rfl rfl (fun g76 => ?_) (fun g76 => ?_)
                      · have g76t : (q).toInt = (0 : Int32).toInt := congrArg Int32.toInt g76
                        exact zs_says hI (by omega) hq
                      · have g76t : ¬ (q).toInt = (0 : Int32).toInt := fun z => g76 (Int32.toInt_inj.mp z)
                        refine zx_W_ins (pc' := 118) dX8_says_117 rfl (fun _ => rfl) rfl ?_
                        refine zx_W_ins (pc' := 120) dX8_says_118 rfl (fun _ => rfl) rfl ?_
                        refine zw_icmp_eq (tgt := 135) (pc' := 123) dX8_says_120 rfl rfl (fun g77 => ?_) (fun g77 => ?_)
                        · have g77t : (q).toInt = ((f67_2.getD (f73_4.getD w.toNatClampNeg 0).toNatClampNeg 0) : Int32).toInt := congrArg Int32.toInt g77
                          exact zs_says hI (by omega) hq
                        · have g77t : ¬ (q).toInt = ((f67_2.getD (f73_4.getD w.toNatClampNeg 0).toNatClampNeg 0) : Int32).toInt := fun z => g77 (Int32.toInt_inj.mp z)
                          refine zx_W_ins (pc' := 125) dX8_says_123 rfl (fun _ => rfl) rfl ?_
                          refine zw_if_ne (tgt := 135) (pc' := 128) dX8_says_125 rfl rfl (fun g => by first | exact absurd rfl g | exact absurd g (by decide)) (fun _ => ?_)
                          refine zx_W_ins (pc' := 129) dX8_says_128 rfl (fun _ => rfl) rfl ?_
                          refine zw_bi (v := (-2)) (pc' := 131) dX8_says_129 rfl rfl ?_
                          refine zw_iv (k := 125) (pc' := 134) dX8_says_131 rfl rfl rfl rfl c63_1 rfl rfl (zc_125 hI (by omega) (fun v79 h80 hI81 fr82 hvv79 _ => ?_))
                          show zx_W _ _ _ _ _ _ _ [.inl v79] _ _
                          have fr83 : ∀ i, i ∉ ([64] : List Nat) → h80[i]? = h[i]? := fun i hi => Eq.trans (fr82 i (fun z => hi (by first | exact absurd z List.not_mem_nil | (simp only [List.mem_cons, List.not_mem_nil, or_false] at z ⊢; omega)))) (fr0 i hi)
                          have c84 : h80[63]? = some (.inl (8, [.inl m_furlongs1, .inl m_many1, .inl m_bagged1, .inl m_legs1, .inl m_most1, .inl m_nap1, .inl m_on1, .inl m_biscuits1, .inl m_races1, .inl m_worn1, .inl m_here1, .inl m_minutes1, .inl m_seed1, .inl m_fault1, .inr (.inr (1, 64)), .inr (.inr (1, 65)), .inr (.inr (1, 66)), .inr (.inr (1, 67)), .inr (.inr (1, 68)), .inr (.inr (1, 69)), .inr (.inr (1, 70)), .inr (.inr (1, 71)), .inr (.inr (1, 72)), .inr (.inr (1, 73)), .inr (.inr (1, 74)), .inr (.inr (1, 75)), .inr (.inr (1, 76)), .inr (.inr (1, 77)), .inr (.inr (1, 78)), .inl m_base1, .inl m_at1, .inl m_end1, .inl m_number1, .inl m_wrongAt1, .inr (.inr (1, 79)), .inr (.inr (1, 80)), .inr (.inr (1, 81)), .inr (.inr (1, 82)), .inr (.inr (1, 83)), .inr (.inr (1, 84)), .inl m_bestMany1, .inl m_bestHere1, .inl m_bestWorn1, .inl m_bestMinutes1, .inl m_turn1, .inl m_ever1, .inl m_made1, .inl m_ruleHere1, .inl m_ruleMinutes1, .inl m_ruleEver1, .inr (.inr (1, 85)), .inl m_ran1, .inl m_isKept1])) := by rw [fr82 63 (by decide)]; exact c63_1
                          have c85 : h80[67]? = some (.inr (0, .inl f67_2)) := by rw [fr82 67 (by decide)]; exact c67_2
                          have c86 : h80[70]? = some (.inr (0, .inl f70_3)) := by rw [fr82 70 (by decide)]; exact c70_3
                          have c87 : h80[73]? = some (.inr (0, .inl f73_4)) := by rw [fr82 73 (by decide)]; exact c73_4
                          obtain ⟨x88, c64_88, f64_88, rfl, l64_88⟩ := zi_g hI81 64 (by decide)
                          refine zw_iret dX8_says_134 rfl rfl ?_
                          exact hq _ h80 hI81 fr83
                    · have g75t : ((f67_2.getD (f73_4.getD w.toNatClampNeg 0).toNatClampNeg 0)).toInt = (6 : Int32).toInt := congrArg Int32.toInt g75
                      refine zw_ic (v := 1) (pc' := 107) dX8_says_106 rfl rfl ?_
                      refine zw_goto (tgt := 111) dX8_says_107 rfl ?_
                      refine zx_W_ins (pc' := 113) (L' := [some (.inr (.inr (1, 63))), some (.inl w), some (.inl q), some (.inl (f73_4.getD w.toNatClampNeg 0)), some (.inl (f67_2.getD (f73_4.getD w.toNatClampNeg 0).toNatClampNeg 0)), some (.inl 1)]) dX8_says_111 rfl (fun _ => rfl) rfl ?_
                      refine zx_W_ins (pc' := 114) dX8_says_113 rfl (fun _ => rfl) rfl ?_
                      refine zw_if_eq (tgt := 135) (pc' := 117) dX8_says_114 rfl rfl (fun g89 => ?_) (fun g89 => ?_)
                      · have g89t : (q).toInt = (0 : Int32).toInt := congrArg Int32.toInt g89
                        exact zs_says hI (by omega) hq
                      · have g89t : ¬ (q).toInt = (0 : Int32).toInt := fun z => g89 (Int32.toInt_inj.mp z)
                        refine zx_W_ins (pc' := 118) dX8_says_117 rfl (fun _ => rfl) rfl ?_
                        refine zx_W_ins (pc' := 120) dX8_says_118 rfl (fun _ => rfl) rfl ?_
                        refine zw_icmp_eq (tgt := 135) (pc' := 123) dX8_says_120 rfl rfl (fun g90 => ?_) (fun g90 => ?_)
                        · have g90t : (q).toInt = ((f67_2.getD (f73_4.getD w.toNatClampNeg 0).toNatClampNeg 0) : Int32).toInt := congrArg Int32.toInt g90
                          exact zs_says hI (by omega) hq
                        · have g90t : ¬ (q).toInt = ((f67_2.getD (f73_4.getD w.toNatClampNeg 0).toNatClampNeg 0) : Int32).toInt := fun z => g90 (Int32.toInt_inj.mp z)
                          refine zx_W_ins (pc' := 125) dX8_says_123 rfl (fun _ => rfl) rfl ?_
                          refine zw_if_ne (tgt := 135) (pc' := 128) dX8_says_125 rfl rfl (fun _ => ?_) (fun g => by first | exact absurd rfl g | exact absurd g (by decide))
                          exact zs_says hI (by omega) hq
            · have g24t : (q).toInt = (1 : Int32).toInt := congrArg Int32.toInt g24
              refine zx_W_ins (pc' := 79) dX8_says_77 rfl (fun _ => rfl) rfl ?_
              refine zw_ic (v := 3) (pc' := 80) dX8_says_79 rfl rfl ?_
              refine zw_icmp_eq (tgt := 106) (pc' := 83) dX8_says_80 rfl rfl (fun g92 => ?_) (fun g92 => ?_)
              · have g92t : ((f67_2.getD (f73_4.getD w.toNatClampNeg 0).toNatClampNeg 0)).toInt = (3 : Int32).toInt := congrArg Int32.toInt g92
                refine zw_ic (v := 1) (pc' := 107) dX8_says_106 rfl rfl ?_
                refine zw_goto (tgt := 111) dX8_says_107 rfl ?_
                refine zx_W_ins (pc' := 113) (L' := [some (.inr (.inr (1, 63))), some (.inl w), some (.inl q), some (.inl (f73_4.getD w.toNatClampNeg 0)), some (.inl (f67_2.getD (f73_4.getD w.toNatClampNeg 0).toNatClampNeg 0)), some (.inl 1)]) dX8_says_111 rfl (fun _ => rfl) rfl ?_
                refine zx_W_ins (pc' := 114) dX8_says_113 rfl (fun _ => rfl) rfl ?_
                refine zw_if_eq (tgt := 135) (pc' := 117) dX8_says_114 rfl rfl (fun g93 => ?_) (fun g93 => ?_)
                · have g93t : (q).toInt = (0 : Int32).toInt := congrArg Int32.toInt g93
                  exact zs_says hI (by omega) hq
                · have g93t : ¬ (q).toInt = (0 : Int32).toInt := fun z => g93 (Int32.toInt_inj.mp z)
                  refine zx_W_ins (pc' := 118) dX8_says_117 rfl (fun _ => rfl) rfl ?_
                  refine zx_W_ins (pc' := 120) dX8_says_118 rfl (fun _ => rfl) rfl ?_
                  refine zw_icmp_eq (tgt := 135) (pc' := 123) dX8_says_120 rfl rfl (fun g94 => ?_) (fun g94 => ?_)
                  · have g94t : (q).toInt = ((f67_2.getD (f73_4.getD w.toNatClampNeg 0).toNatClampNeg 0) : Int32).toInt := congrArg Int32.toInt g94
                    exact zs_says hI (by omega) hq
                  · have g94t : ¬ (q).toInt = ((f67_2.getD (f73_4.getD w.toNatClampNeg 0).toNatClampNeg 0) : Int32).toInt := fun z => g94 (Int32.toInt_inj.mp z)
                    refine zx_W_ins (pc' := 125) dX8_says_123 rfl (fun _ => rfl) rfl ?_
                    refine zw_if_ne (tgt := 135) (pc' := 128) dX8_says_125 rfl rfl (fun _ => ?_) (fun g => by first | exact absurd rfl g | exact absurd g (by decide))
                    exact zs_says hI (by omega) hq
              · have g92t : ¬ ((f67_2.getD (f73_4.getD w.toNatClampNeg 0).toNatClampNeg 0)).toInt = (3 : Int32).toInt := fun z => g92 (Int32.toInt_inj.mp z)
                refine zx_W_ins (pc' := 84) dX8_says_83 rfl (fun _ => rfl) rfl ?_
                refine zw_ic (v := 2) (pc' := 85) dX8_says_84 rfl rfl ?_
                refine zw_icmp_ne (tgt := 94) (pc' := 88) dX8_says_85 rfl rfl (fun g96 => ?_) (fun g96 => ?_)
                · have g96t : ¬ (q).toInt = (2 : Int32).toInt := fun z => g96 (Int32.toInt_inj.mp z)
                  refine zx_W_ins (pc' := 95) dX8_says_94 rfl (fun _ => rfl) rfl ?_
                  refine zw_ic (v := 4) (pc' := 96) dX8_says_95 rfl rfl ?_
                  refine zw_icmp_ne (tgt := 110) (pc' := 99) dX8_says_96 rfl rfl (fun g97 => ?_) (fun g97 => ?_)
                  · have g97t : ¬ (q).toInt = (4 : Int32).toInt := fun z => g97 (Int32.toInt_inj.mp z)
                    refine zw_ic (v := 0) (pc' := 111) dX8_says_110 rfl rfl ?_
                    refine zx_W_ins (pc' := 113) (L' := [some (.inr (.inr (1, 63))), some (.inl w), some (.inl q), some (.inl (f73_4.getD w.toNatClampNeg 0)), some (.inl (f67_2.getD (f73_4.getD w.toNatClampNeg 0).toNatClampNeg 0)), some (.inl 0)]) dX8_says_111 rfl (fun _ => rfl) rfl ?_
                    refine zx_W_ins (pc' := 114) dX8_says_113 rfl (fun _ => rfl) rfl ?_
                    refine zw_if_eq (tgt := 135) (pc' := 117) dX8_says_114 rfl rfl (fun g98 => ?_) (fun g98 => ?_)
                    · have g98t : (q).toInt = (0 : Int32).toInt := congrArg Int32.toInt g98
                      exact zs_says hI (by omega) hq
                    · have g98t : ¬ (q).toInt = (0 : Int32).toInt := fun z => g98 (Int32.toInt_inj.mp z)
                      refine zx_W_ins (pc' := 118) dX8_says_117 rfl (fun _ => rfl) rfl ?_
                      refine zx_W_ins (pc' := 120) dX8_says_118 rfl (fun _ => rfl) rfl ?_
                      refine zw_icmp_eq (tgt := 135) (pc' := 123) dX8_says_120 rfl rfl (fun g99 => ?_) (fun g99 => ?_)
                      · have g99t : (q).toInt = ((f67_2.getD (f73_4.getD w.toNatClampNeg 0).toNatClampNeg 0) : Int32).toInt := congrArg Int32.toInt g99
                        exact zs_says hI (by omega) hq
                      · have g99t : ¬ (q).toInt = ((f67_2.getD (f73_4.getD w.toNatClampNeg 0).toNatClampNeg 0) : Int32).toInt := fun z => g99 (Int32.toInt_inj.mp z)
                        refine zx_W_ins (pc' := 125) dX8_says_123 rfl (fun _ => rfl) rfl ?_
                        refine zw_if_ne (tgt := 135) (pc' := 128) dX8_says_125 rfl rfl (fun g => by first | exact absurd rfl g | exact absurd g (by decide)) (fun _ => ?_)
                        refine zx_W_ins (pc' := 129) dX8_says_128 rfl (fun _ => rfl) rfl ?_
                        refine zw_bi (v := (-2)) (pc' := 131) dX8_says_129 rfl rfl ?_
                        refine zw_iv (k := 125) (pc' := 134) dX8_says_131 rfl rfl rfl rfl c63_1 rfl rfl (zc_125 hI (by omega) (fun v101 h102 hI103 fr104 hvv101 _ => ?_))
                        show zx_W _ _ _ _ _ _ _ [.inl v101] _ _
                        have fr105 : ∀ i, i ∉ ([64] : List Nat) → h102[i]? = h[i]? := fun i hi => Eq.trans (fr104 i (fun z => hi (by first | exact absurd z List.not_mem_nil | (simp only [List.mem_cons, List.not_mem_nil, or_false] at z ⊢; omega)))) (fr0 i hi)
                        have c106 : h102[63]? = some (.inl (8, [.inl m_furlongs1, .inl m_many1, .inl m_bagged1, .inl m_legs1, .inl m_most1, .inl m_nap1, .inl m_on1, .inl m_biscuits1, .inl m_races1, .inl m_worn1, .inl m_here1, .inl m_minutes1, .inl m_seed1, .inl m_fault1, .inr (.inr (1, 64)), .inr (.inr (1, 65)), .inr (.inr (1, 66)), .inr (.inr (1, 67)), .inr (.inr (1, 68)), .inr (.inr (1, 69)), .inr (.inr (1, 70)), .inr (.inr (1, 71)), .inr (.inr (1, 72)), .inr (.inr (1, 73)), .inr (.inr (1, 74)), .inr (.inr (1, 75)), .inr (.inr (1, 76)), .inr (.inr (1, 77)), .inr (.inr (1, 78)), .inl m_base1, .inl m_at1, .inl m_end1, .inl m_number1, .inl m_wrongAt1, .inr (.inr (1, 79)), .inr (.inr (1, 80)), .inr (.inr (1, 81)), .inr (.inr (1, 82)), .inr (.inr (1, 83)), .inr (.inr (1, 84)), .inl m_bestMany1, .inl m_bestHere1, .inl m_bestWorn1, .inl m_bestMinutes1, .inl m_turn1, .inl m_ever1, .inl m_made1, .inl m_ruleHere1, .inl m_ruleMinutes1, .inl m_ruleEver1, .inr (.inr (1, 85)), .inl m_ran1, .inl m_isKept1])) := by rw [fr104 63 (by decide)]; exact c63_1
                        have c107 : h102[67]? = some (.inr (0, .inl f67_2)) := by rw [fr104 67 (by decide)]; exact c67_2
                        have c108 : h102[70]? = some (.inr (0, .inl f70_3)) := by rw [fr104 70 (by decide)]; exact c70_3
                        have c109 : h102[73]? = some (.inr (0, .inl f73_4)) := by rw [fr104 73 (by decide)]; exact c73_4
                        obtain ⟨x110, c64_110, f64_110, rfl, l64_110⟩ := zi_g hI103 64 (by decide)
                        refine zw_iret dX8_says_134 rfl rfl ?_
                        exact hq _ h102 hI103 fr105
                  · have g97t : (q).toInt = (4 : Int32).toInt := congrArg Int32.toInt g97
                    refine zx_W_ins (pc' := 101) dX8_says_99 rfl (fun _ => rfl) rfl ?_
                    refine zw_bi (v := 6) (pc' := 103) dX8_says_101 rfl rfl ?_
                    refine zw_icmp_ne (tgt := 110) (pc' := 106) dX8_says_103 rfl rfl (fun g111 => ?_) (fun g111 => ?_)
                    · have g111t : ¬ ((f67_2.getD (f73_4.getD w.toNatClampNeg 0).toNatClampNeg 0)).toInt = (6 : Int32).toInt := fun z => g111 (Int32.toInt_inj.mp z)
                      refine zw_ic (v := 0) (pc' := 111) dX8_says_110 rfl rfl ?_
                      refine zx_W_ins (pc' := 113) (L' := [some (.inr (.inr (1, 63))), some (.inl w), some (.inl q), some (.inl (f73_4.getD w.toNatClampNeg 0)), some (.inl (f67_2.getD (f73_4.getD w.toNatClampNeg 0).toNatClampNeg 0)), some (.inl 0)]) dX8_says_111 rfl (fun _ => rfl) rfl ?_
                      refine zx_W_ins (pc' := 114) dX8_says_113 rfl (fun _ => rfl) rfl ?_
                      refine zw_if_eq (tgt := 135) (pc' := 117) dX8_says_114 rfl rfl (fun g112 => ?_) (fun g112 => ?_)
                      · have g112t : (q).toInt = (0 : Int32).toInt := congrArg Int32.toInt g112
                        exact zs_says hI (by omega) hq
                      · have g112t : ¬ (q).toInt = (0 : Int32).toInt := fun z => g112 (Int32.toInt_inj.mp z)
                        refine zx_W_ins (pc' := 118) dX8_says_117 rfl (fun _ => rfl) rfl ?_
                        refine zx_W_ins (pc' := 120) dX8_says_118 rfl (fun _ => rfl) rfl ?_
                        refine zw_icmp_eq (tgt := 135) (pc' := 123) dX8_says_120 rfl rfl (fun g113 => ?_) (fun g113 => ?_)
                        · have g113t : (q).toInt = ((f67_2.getD (f73_4.getD w.toNatClampNeg 0).toNatClampNeg 0) : Int32).toInt := congrArg Int32.toInt g113
                          exact zs_says hI (by omega) hq
                        · have g113t : ¬ (q).toInt = ((f67_2.getD (f73_4.getD w.toNatClampNeg 0).toNatClampNeg 0) : Int32).toInt := fun z => g113 (Int32.toInt_inj.mp z)
                          refine zx_W_ins (pc' := 125) dX8_says_123 rfl (fun _ => rfl) rfl ?_
                          refine zw_if_ne (tgt := 135) (pc' := 128) dX8_says_125 rfl rfl (fun g => by first | exact absurd rfl g | exact absurd g (by decide)) (fun _ => ?_)
                          refine zx_W_ins (pc' := 129) dX8_says_128 rfl (fun _ => rfl) rfl ?_
                          refine zw_bi (v := (-2)) (pc' := 131) dX8_says_129 rfl rfl ?_
                          refine zw_iv (k := 125) (pc' := 134) dX8_says_131 rfl rfl rfl rfl c63_1 rfl rfl (zc_125 hI (by omega) (fun v115 h116 hI117 fr118 hvv115 _ => ?_))
                          show zx_W _ _ _ _ _ _ _ [.inl v115] _ _
                          have fr119 : ∀ i, i ∉ ([64] : List Nat) → h116[i]? = h[i]? := fun i hi => Eq.trans (fr118 i (fun z => hi (by first | exact absurd z List.not_mem_nil | (simp only [List.mem_cons, List.not_mem_nil, or_false] at z ⊢; omega)))) (fr0 i hi)
                          have c120 : h116[63]? = some (.inl (8, [.inl m_furlongs1, .inl m_many1, .inl m_bagged1, .inl m_legs1, .inl m_most1, .inl m_nap1, .inl m_on1, .inl m_biscuits1, .inl m_races1, .inl m_worn1, .inl m_here1, .inl m_minutes1, .inl m_seed1, .inl m_fault1, .inr (.inr (1, 64)), .inr (.inr (1, 65)), .inr (.inr (1, 66)), .inr (.inr (1, 67)), .inr (.inr (1, 68)), .inr (.inr (1, 69)), .inr (.inr (1, 70)), .inr (.inr (1, 71)), .inr (.inr (1, 72)), .inr (.inr (1, 73)), .inr (.inr (1, 74)), .inr (.inr (1, 75)), .inr (.inr (1, 76)), .inr (.inr (1, 77)), .inr (.inr (1, 78)), .inl m_base1, .inl m_at1, .inl m_end1, .inl m_number1, .inl m_wrongAt1, .inr (.inr (1, 79)), .inr (.inr (1, 80)), .inr (.inr (1, 81)), .inr (.inr (1, 82)), .inr (.inr (1, 83)), .inr (.inr (1, 84)), .inl m_bestMany1, .inl m_bestHere1, .inl m_bestWorn1, .inl m_bestMinutes1, .inl m_turn1, .inl m_ever1, .inl m_made1, .inl m_ruleHere1, .inl m_ruleMinutes1, .inl m_ruleEver1, .inr (.inr (1, 85)), .inl m_ran1, .inl m_isKept1])) := by rw [fr118 63 (by decide)]; exact c63_1
                          have c121 : h116[67]? = some (.inr (0, .inl f67_2)) := by rw [fr118 67 (by decide)]; exact c67_2
                          have c122 : h116[70]? = some (.inr (0, .inl f70_3)) := by rw [fr118 70 (by decide)]; exact c70_3
                          have c123 : h116[73]? = some (.inr (0, .inl f73_4)) := by rw [fr118 73 (by decide)]; exact c73_4
                          obtain ⟨x124, c64_124, f64_124, rfl, l64_124⟩ := zi_g hI117 64 (by decide)
                          refine zw_iret dX8_says_134 rfl rfl ?_
                          exact hq _ h116 hI117 fr119
                    · have g111t : ((f67_2.getD (f73_4.getD w.toNatClampNeg 0).toNatClampNeg 0)).toInt = (6 : Int32).toInt := congrArg Int32.toInt g111
                      refine zw_ic (v := 1) (pc' := 107) dX8_says_106 rfl rfl ?_
                      refine zw_goto (tgt := 111) dX8_says_107 rfl ?_
                      refine zx_W_ins (pc' := 113) (L' := [some (.inr (.inr (1, 63))), some (.inl w), some (.inl q), some (.inl (f73_4.getD w.toNatClampNeg 0)), some (.inl (f67_2.getD (f73_4.getD w.toNatClampNeg 0).toNatClampNeg 0)), some (.inl 1)]) dX8_says_111 rfl (fun _ => rfl) rfl ?_
                      refine zx_W_ins (pc' := 114) dX8_says_113 rfl (fun _ => rfl) rfl ?_
                      refine zw_if_eq (tgt := 135) (pc' := 117) dX8_says_114 rfl rfl (fun g125 => ?_) (fun g125 => ?_)
                      · have g125t : (q).toInt = (0 : Int32).toInt := congrArg Int32.toInt g125
                        exact zs_says hI (by omega) hq
                      · have g125t : ¬ (q).toInt = (0 : Int32).toInt := fun z => g125 (Int32.toInt_inj.mp z)
                        refine zx_W_ins (pc' := 118) dX8_says_117 rfl (fun _ => rfl) rfl ?_
                        refine zx_W_ins (pc' := 120) dX8_says_118 rfl (fun _ => rfl) rfl ?_
                        refine zw_icmp_eq (tgt := 135) (pc' := 123) dX8_says_120 rfl rfl (fun g126 => ?_) (fun g126 => ?_)
                        · have g126t : (q).toInt = ((f67_2.getD (f73_4.getD w.toNatClampNeg 0).toNatClampNeg 0) : Int32).toInt := congrArg Int32.toInt g126
                          exact zs_says hI (by omega) hq
                        · have g126t : ¬ (q).toInt = ((f67_2.getD (f73_4.getD w.toNatClampNeg 0).toNatClampNeg 0) : Int32).toInt := fun z => g126 (Int32.toInt_inj.mp z)
                          refine zx_W_ins (pc' := 125) dX8_says_123 rfl (fun _ => rfl) rfl ?_
                          refine zw_if_ne (tgt := 135) (pc' := 128) dX8_says_125 rfl rfl (fun _ => ?_) (fun g => by first | exact absurd rfl g | exact absurd g (by decide))
                          exact zs_says hI (by omega) hq
                · have g96t : (q).toInt = (2 : Int32).toInt := congrArg Int32.toInt g96
                  refine zx_W_ins (pc' := 90) dX8_says_88 rfl (fun _ => rfl) rfl ?_
                  refine zw_ic (v := 5) (pc' := 91) dX8_says_90 rfl rfl ?_
                  refine zw_icmp_eq (tgt := 106) (pc' := 94) dX8_says_91 rfl rfl (fun g128 => ?_) (fun g128 => ?_)
                  · have g128t : ((f67_2.getD (f73_4.getD w.toNatClampNeg 0).toNatClampNeg 0)).toInt = (5 : Int32).toInt := congrArg Int32.toInt g128
                    refine zw_ic (v := 1) (pc' := 107) dX8_says_106 rfl rfl ?_
                    refine zw_goto (tgt := 111) dX8_says_107 rfl ?_
                    refine zx_W_ins (pc' := 113) (L' := [some (.inr (.inr (1, 63))), some (.inl w), some (.inl q), some (.inl (f73_4.getD w.toNatClampNeg 0)), some (.inl (f67_2.getD (f73_4.getD w.toNatClampNeg 0).toNatClampNeg 0)), some (.inl 1)]) dX8_says_111 rfl (fun _ => rfl) rfl ?_
                    refine zx_W_ins (pc' := 114) dX8_says_113 rfl (fun _ => rfl) rfl ?_
                    refine zw_if_eq (tgt := 135) (pc' := 117) dX8_says_114 rfl rfl (fun g129 => ?_) (fun g129 => ?_)
                    · have g129t : (q).toInt = (0 : Int32).toInt := congrArg Int32.toInt g129
                      exact zs_says hI (by omega) hq
                    · have g129t : ¬ (q).toInt = (0 : Int32).toInt := fun z => g129 (Int32.toInt_inj.mp z)
                      refine zx_W_ins (pc' := 118) dX8_says_117 rfl (fun _ => rfl) rfl ?_
                      refine zx_W_ins (pc' := 120) dX8_says_118 rfl (fun _ => rfl) rfl ?_
                      refine zw_icmp_eq (tgt := 135) (pc' := 123) dX8_says_120 rfl rfl (fun g130 => ?_) (fun g130 => ?_)
                      · have g130t : (q).toInt = ((f67_2.getD (f73_4.getD w.toNatClampNeg 0).toNatClampNeg 0) : Int32).toInt := congrArg Int32.toInt g130
                        exact zs_says hI (by omega) hq
                      · have g130t : ¬ (q).toInt = ((f67_2.getD (f73_4.getD w.toNatClampNeg 0).toNatClampNeg 0) : Int32).toInt := fun z => g130 (Int32.toInt_inj.mp z)
                        refine zx_W_ins (pc' := 125) dX8_says_123 rfl (fun _ => rfl) rfl ?_
                        refine zw_if_ne (tgt := 135) (pc' := 128) dX8_says_125 rfl rfl (fun _ => ?_) (fun g => by first | exact absurd rfl g | exact absurd g (by decide))
                        exact zs_says hI (by omega) hq
                  · have g128t : ¬ ((f67_2.getD (f73_4.getD w.toNatClampNeg 0).toNatClampNeg 0)).toInt = (5 : Int32).toInt := fun z => g128 (Int32.toInt_inj.mp z)
                    refine zx_W_ins (pc' := 95) dX8_says_94 rfl (fun _ => rfl) rfl ?_
                    refine zw_ic (v := 4) (pc' := 96) dX8_says_95 rfl rfl ?_
                    refine zw_icmp_ne (tgt := 110) (pc' := 99) dX8_says_96 rfl rfl (fun g132 => ?_) (fun g132 => ?_)
                    · have g132t : ¬ (q).toInt = (4 : Int32).toInt := fun z => g132 (Int32.toInt_inj.mp z)
                      refine zw_ic (v := 0) (pc' := 111) dX8_says_110 rfl rfl ?_
                      refine zx_W_ins (pc' := 113) (L' := [some (.inr (.inr (1, 63))), some (.inl w), some (.inl q), some (.inl (f73_4.getD w.toNatClampNeg 0)), some (.inl (f67_2.getD (f73_4.getD w.toNatClampNeg 0).toNatClampNeg 0)), some (.inl 0)]) dX8_says_111 rfl (fun _ => rfl) rfl ?_
                      refine zx_W_ins (pc' := 114) dX8_says_113 rfl (fun _ => rfl) rfl ?_
                      refine zw_if_eq (tgt := 135) (pc' := 117) dX8_says_114 rfl rfl (fun g133 => ?_) (fun g133 => ?_)
                      · have g133t : (q).toInt = (0 : Int32).toInt := congrArg Int32.toInt g133
                        exact zs_says hI (by omega) hq
                      · have g133t : ¬ (q).toInt = (0 : Int32).toInt := fun z => g133 (Int32.toInt_inj.mp z)
                        refine zx_W_ins (pc' := 118) dX8_says_117 rfl (fun _ => rfl) rfl ?_
                        refine zx_W_ins (pc' := 120) dX8_says_118 rfl (fun _ => rfl) rfl ?_
                        refine zw_icmp_eq (tgt := 135) (pc' := 123) dX8_says_120 rfl rfl (fun g134 => ?_) (fun g134 => ?_)
                        · have g134t : (q).toInt = ((f67_2.getD (f73_4.getD w.toNatClampNeg 0).toNatClampNeg 0) : Int32).toInt := congrArg Int32.toInt g134
                          exact zs_says hI (by omega) hq
                        · have g134t : ¬ (q).toInt = ((f67_2.getD (f73_4.getD w.toNatClampNeg 0).toNatClampNeg 0) : Int32).toInt := fun z => g134 (Int32.toInt_inj.mp z)
                          refine zx_W_ins (pc' := 125) dX8_says_123 rfl (fun _ => rfl) rfl ?_
                          refine zw_if_ne (tgt := 135) (pc' := 128) dX8_says_125 rfl rfl (fun g => by first | exact absurd rfl g | exact absurd g (by decide)) (fun _ => ?_)
                          refine zx_W_ins (pc' := 129) dX8_says_128 rfl (fun _ => rfl) rfl ?_
                          refine zw_bi (v := (-2)) (pc' := 131) dX8_says_129 rfl rfl ?_
                          refine zw_iv (k := 125) (pc' := 134) dX8_says_131 rfl rfl rfl rfl c63_1 rfl rfl (zc_125 hI (by omega) (fun v136 h137 hI138 fr139 hvv136 _ => ?_))
                          show zx_W _ _ _ _ _ _ _ [.inl v136] _ _
                          have fr140 : ∀ i, i ∉ ([64] : List Nat) → h137[i]? = h[i]? := fun i hi => Eq.trans (fr139 i (fun z => hi (by first | exact absurd z List.not_mem_nil | (simp only [List.mem_cons, List.not_mem_nil, or_false] at z ⊢; omega)))) (fr0 i hi)
                          have c141 : h137[63]? = some (.inl (8, [.inl m_furlongs1, .inl m_many1, .inl m_bagged1, .inl m_legs1, .inl m_most1, .inl m_nap1, .inl m_on1, .inl m_biscuits1, .inl m_races1, .inl m_worn1, .inl m_here1, .inl m_minutes1, .inl m_seed1, .inl m_fault1, .inr (.inr (1, 64)), .inr (.inr (1, 65)), .inr (.inr (1, 66)), .inr (.inr (1, 67)), .inr (.inr (1, 68)), .inr (.inr (1, 69)), .inr (.inr (1, 70)), .inr (.inr (1, 71)), .inr (.inr (1, 72)), .inr (.inr (1, 73)), .inr (.inr (1, 74)), .inr (.inr (1, 75)), .inr (.inr (1, 76)), .inr (.inr (1, 77)), .inr (.inr (1, 78)), .inl m_base1, .inl m_at1, .inl m_end1, .inl m_number1, .inl m_wrongAt1, .inr (.inr (1, 79)), .inr (.inr (1, 80)), .inr (.inr (1, 81)), .inr (.inr (1, 82)), .inr (.inr (1, 83)), .inr (.inr (1, 84)), .inl m_bestMany1, .inl m_bestHere1, .inl m_bestWorn1, .inl m_bestMinutes1, .inl m_turn1, .inl m_ever1, .inl m_made1, .inl m_ruleHere1, .inl m_ruleMinutes1, .inl m_ruleEver1, .inr (.inr (1, 85)), .inl m_ran1, .inl m_isKept1])) := by rw [fr139 63 (by decide)]; exact c63_1
                          have c142 : h137[67]? = some (.inr (0, .inl f67_2)) := by rw [fr139 67 (by decide)]; exact c67_2
                          have c143 : h137[70]? = some (.inr (0, .inl f70_3)) := by rw [fr139 70 (by decide)]; exact c70_3
                          have c144 : h137[73]? = some (.inr (0, .inl f73_4)) := by rw [fr139 73 (by decide)]; exact c73_4
                          obtain ⟨x145, c64_145, f64_145, rfl, l64_145⟩ := zi_g hI138 64 (by decide)
                          refine zw_iret dX8_says_134 rfl rfl ?_
                          exact hq _ h137 hI138 fr140
                    · have g132t : (q).toInt = (4 : Int32).toInt := congrArg Int32.toInt g132
                      refine zx_W_ins (pc' := 101) dX8_says_99 rfl (fun _ => rfl) rfl ?_
                      refine zw_bi (v := 6) (pc' := 103) dX8_says_101 rfl rfl ?_
                      refine zw_icmp_ne (tgt := 110) (pc' := 106) dX8_says_103 rfl rfl (fun g146 => ?_) (fun g146 => ?_)
                      · have g146t : ¬ ((f67_2.getD (f73_4.getD w.toNatClampNeg 0).toNatClampNeg 0)).toInt = (6 : Int32).toInt := fun z => g146 (Int32.toInt_inj.mp z)
                        refine zw_ic (v := 0) (pc' := 111) dX8_says_110 rfl rfl ?_
                        refine zx_W_ins (pc' := 113) (L' := [some (.inr (.inr (1, 63))), some (.inl w), some (.inl q), some (.inl (f73_4.getD w.toNatClampNeg 0)), some (.inl (f67_2.getD (f73_4.getD w.toNatClampNeg 0).toNatClampNeg 0)), some (.inl 0)]) dX8_says_111 rfl (fun _ => rfl) rfl ?_
                        refine zx_W_ins (pc' := 114) dX8_says_113 rfl (fun _ => rfl) rfl ?_
                        refine zw_if_eq (tgt := 135) (pc' := 117) dX8_says_114 rfl rfl (fun g147 => ?_) (fun g147 => ?_)
                        · have g147t : (q).toInt = (0 : Int32).toInt := congrArg Int32.toInt g147
                          exact zs_says hI (by omega) hq
                        · have g147t : ¬ (q).toInt = (0 : Int32).toInt := fun z => g147 (Int32.toInt_inj.mp z)
                          refine zx_W_ins (pc' := 118) dX8_says_117 rfl (fun _ => rfl) rfl ?_
                          refine zx_W_ins (pc' := 120) dX8_says_118 rfl (fun _ => rfl) rfl ?_
                          refine zw_icmp_eq (tgt := 135) (pc' := 123) dX8_says_120 rfl rfl (fun g148 => ?_) (fun g148 => ?_)
                          · have g148t : (q).toInt = ((f67_2.getD (f73_4.getD w.toNatClampNeg 0).toNatClampNeg 0) : Int32).toInt := congrArg Int32.toInt g148
                            exact zs_says hI (by omega) hq
                          · have g148t : ¬ (q).toInt = ((f67_2.getD (f73_4.getD w.toNatClampNeg 0).toNatClampNeg 0) : Int32).toInt := fun z => g148 (Int32.toInt_inj.mp z)
                            refine zx_W_ins (pc' := 125) dX8_says_123 rfl (fun _ => rfl) rfl ?_
                            refine zw_if_ne (tgt := 135) (pc' := 128) dX8_says_125 rfl rfl (fun g => by first | exact absurd rfl g | exact absurd g (by decide)) (fun _ => ?_)
                            refine zx_W_ins (pc' := 129) dX8_says_128 rfl (fun _ => rfl) rfl ?_
                            refine zw_bi (v := (-2)) (pc' := 131) dX8_says_129 rfl rfl ?_
                            refine zw_iv (k := 125) (pc' := 134) dX8_says_131 rfl rfl rfl rfl c63_1 rfl rfl (zc_125 hI (by omega) (fun v150 h151 hI152 fr153 hvv150 _ => ?_))
                            show zx_W _ _ _ _ _ _ _ [.inl v150] _ _
                            have fr154 : ∀ i, i ∉ ([64] : List Nat) → h151[i]? = h[i]? := fun i hi => Eq.trans (fr153 i (fun z => hi (by first | exact absurd z List.not_mem_nil | (simp only [List.mem_cons, List.not_mem_nil, or_false] at z ⊢; omega)))) (fr0 i hi)
                            have c155 : h151[63]? = some (.inl (8, [.inl m_furlongs1, .inl m_many1, .inl m_bagged1, .inl m_legs1, .inl m_most1, .inl m_nap1, .inl m_on1, .inl m_biscuits1, .inl m_races1, .inl m_worn1, .inl m_here1, .inl m_minutes1, .inl m_seed1, .inl m_fault1, .inr (.inr (1, 64)), .inr (.inr (1, 65)), .inr (.inr (1, 66)), .inr (.inr (1, 67)), .inr (.inr (1, 68)), .inr (.inr (1, 69)), .inr (.inr (1, 70)), .inr (.inr (1, 71)), .inr (.inr (1, 72)), .inr (.inr (1, 73)), .inr (.inr (1, 74)), .inr (.inr (1, 75)), .inr (.inr (1, 76)), .inr (.inr (1, 77)), .inr (.inr (1, 78)), .inl m_base1, .inl m_at1, .inl m_end1, .inl m_number1, .inl m_wrongAt1, .inr (.inr (1, 79)), .inr (.inr (1, 80)), .inr (.inr (1, 81)), .inr (.inr (1, 82)), .inr (.inr (1, 83)), .inr (.inr (1, 84)), .inl m_bestMany1, .inl m_bestHere1, .inl m_bestWorn1, .inl m_bestMinutes1, .inl m_turn1, .inl m_ever1, .inl m_made1, .inl m_ruleHere1, .inl m_ruleMinutes1, .inl m_ruleEver1, .inr (.inr (1, 85)), .inl m_ran1, .inl m_isKept1])) := by rw [fr153 63 (by decide)]; exact c63_1
                            have c156 : h151[67]? = some (.inr (0, .inl f67_2)) := by rw [fr153 67 (by decide)]; exact c67_2
                            have c157 : h151[70]? = some (.inr (0, .inl f70_3)) := by rw [fr153 70 (by decide)]; exact c70_3
                            have c158 : h151[73]? = some (.inr (0, .inl f73_4)) := by rw [fr153 73 (by decide)]; exact c73_4
                            obtain ⟨x159, c64_159, f64_159, rfl, l64_159⟩ := zi_g hI152 64 (by decide)
                            refine zw_iret dX8_says_134 rfl rfl ?_
                            exact hq _ h151 hI152 fr154
                      · have g146t : ((f67_2.getD (f73_4.getD w.toNatClampNeg 0).toNatClampNeg 0)).toInt = (6 : Int32).toInt := congrArg Int32.toInt g146
                        refine zw_ic (v := 1) (pc' := 107) dX8_says_106 rfl rfl ?_
                        refine zw_goto (tgt := 111) dX8_says_107 rfl ?_
                        refine zx_W_ins (pc' := 113) (L' := [some (.inr (.inr (1, 63))), some (.inl w), some (.inl q), some (.inl (f73_4.getD w.toNatClampNeg 0)), some (.inl (f67_2.getD (f73_4.getD w.toNatClampNeg 0).toNatClampNeg 0)), some (.inl 1)]) dX8_says_111 rfl (fun _ => rfl) rfl ?_
                        refine zx_W_ins (pc' := 114) dX8_says_113 rfl (fun _ => rfl) rfl ?_
                        refine zw_if_eq (tgt := 135) (pc' := 117) dX8_says_114 rfl rfl (fun g160 => ?_) (fun g160 => ?_)
                        · have g160t : (q).toInt = (0 : Int32).toInt := congrArg Int32.toInt g160
                          exact zs_says hI (by omega) hq
                        · have g160t : ¬ (q).toInt = (0 : Int32).toInt := fun z => g160 (Int32.toInt_inj.mp z)
                          refine zx_W_ins (pc' := 118) dX8_says_117 rfl (fun _ => rfl) rfl ?_
                          refine zx_W_ins (pc' := 120) dX8_says_118 rfl (fun _ => rfl) rfl ?_
                          refine zw_icmp_eq (tgt := 135) (pc' := 123) dX8_says_120 rfl rfl (fun g161 => ?_) (fun g161 => ?_)
                          · have g161t : (q).toInt = ((f67_2.getD (f73_4.getD w.toNatClampNeg 0).toNatClampNeg 0) : Int32).toInt := congrArg Int32.toInt g161
                            exact zs_says hI (by omega) hq
                          · have g161t : ¬ (q).toInt = ((f67_2.getD (f73_4.getD w.toNatClampNeg 0).toNatClampNeg 0) : Int32).toInt := fun z => g161 (Int32.toInt_inj.mp z)
                            refine zx_W_ins (pc' := 125) dX8_says_123 rfl (fun _ => rfl) rfl ?_
                            refine zw_if_ne (tgt := 135) (pc' := 128) dX8_says_125 rfl rfl (fun _ => ?_) (fun g => by first | exact absurd rfl g | exact absurd g (by decide))
                            exact zs_says hI (by omega) hq
          · have g22t : ((f70_3.getD w.toNatClampNeg 0)).toInt = (0 : Int32).toInt := congrArg Int32.toInt g22
            refine zx_W_ins (pc' := 51) dX8_says_50 rfl (fun _ => rfl) rfl ?_
            refine zw_bi (v := (-3)) (pc' := 53) dX8_says_51 rfl rfl ?_
            refine zw_iv (k := 125) (pc' := 56) dX8_says_53 rfl rfl rfl rfl c63_1 rfl rfl (zc_125 hI (by omega) (fun v163 h164 hI165 fr166 hvv163 _ => ?_))
            show zx_W _ _ _ _ _ _ _ [.inl v163] _ _
            have fr167 : ∀ i, i ∉ ([64] : List Nat) → h164[i]? = h[i]? := fun i hi => Eq.trans (fr166 i (fun z => hi (by first | exact absurd z List.not_mem_nil | (simp only [List.mem_cons, List.not_mem_nil, or_false] at z ⊢; omega)))) (fr0 i hi)
            have c168 : h164[63]? = some (.inl (8, [.inl m_furlongs1, .inl m_many1, .inl m_bagged1, .inl m_legs1, .inl m_most1, .inl m_nap1, .inl m_on1, .inl m_biscuits1, .inl m_races1, .inl m_worn1, .inl m_here1, .inl m_minutes1, .inl m_seed1, .inl m_fault1, .inr (.inr (1, 64)), .inr (.inr (1, 65)), .inr (.inr (1, 66)), .inr (.inr (1, 67)), .inr (.inr (1, 68)), .inr (.inr (1, 69)), .inr (.inr (1, 70)), .inr (.inr (1, 71)), .inr (.inr (1, 72)), .inr (.inr (1, 73)), .inr (.inr (1, 74)), .inr (.inr (1, 75)), .inr (.inr (1, 76)), .inr (.inr (1, 77)), .inr (.inr (1, 78)), .inl m_base1, .inl m_at1, .inl m_end1, .inl m_number1, .inl m_wrongAt1, .inr (.inr (1, 79)), .inr (.inr (1, 80)), .inr (.inr (1, 81)), .inr (.inr (1, 82)), .inr (.inr (1, 83)), .inr (.inr (1, 84)), .inl m_bestMany1, .inl m_bestHere1, .inl m_bestWorn1, .inl m_bestMinutes1, .inl m_turn1, .inl m_ever1, .inl m_made1, .inl m_ruleHere1, .inl m_ruleMinutes1, .inl m_ruleEver1, .inr (.inr (1, 85)), .inl m_ran1, .inl m_isKept1])) := by rw [fr166 63 (by decide)]; exact c63_1
            have c169 : h164[67]? = some (.inr (0, .inl f67_2)) := by rw [fr166 67 (by decide)]; exact c67_2
            have c170 : h164[70]? = some (.inr (0, .inl f70_3)) := by rw [fr166 70 (by decide)]; exact c70_3
            have c171 : h164[73]? = some (.inr (0, .inl f73_4)) := by rw [fr166 73 (by decide)]; exact c73_4
            obtain ⟨x172, c64_172, f64_172, rfl, l64_172⟩ := zi_g hI165 64 (by decide)
            refine zw_iret dX8_says_56 rfl rfl ?_
            exact hq _ h164 hI165 fr167
        · have g20t : ((f70_3.getD w.toNatClampNeg 0)).toInt = (1 : Int32).toInt := congrArg Int32.toInt g20
          refine zx_W_ins (pc' := 35) dX8_says_34 rfl (fun _ => rfl) rfl ?_
          refine zw_bi (v := (-2)) (pc' := 37) dX8_says_35 rfl rfl ?_
          refine zw_iv (k := 125) (pc' := 40) dX8_says_37 rfl rfl rfl rfl c63_1 rfl rfl (zc_125 hI (by omega) (fun v173 h174 hI175 fr176 hvv173 _ => ?_))
          show zx_W _ _ _ _ _ _ _ [.inl v173] _ _
          have fr177 : ∀ i, i ∉ ([64] : List Nat) → h174[i]? = h[i]? := fun i hi => Eq.trans (fr176 i (fun z => hi (by first | exact absurd z List.not_mem_nil | (simp only [List.mem_cons, List.not_mem_nil, or_false] at z ⊢; omega)))) (fr0 i hi)
          have c178 : h174[63]? = some (.inl (8, [.inl m_furlongs1, .inl m_many1, .inl m_bagged1, .inl m_legs1, .inl m_most1, .inl m_nap1, .inl m_on1, .inl m_biscuits1, .inl m_races1, .inl m_worn1, .inl m_here1, .inl m_minutes1, .inl m_seed1, .inl m_fault1, .inr (.inr (1, 64)), .inr (.inr (1, 65)), .inr (.inr (1, 66)), .inr (.inr (1, 67)), .inr (.inr (1, 68)), .inr (.inr (1, 69)), .inr (.inr (1, 70)), .inr (.inr (1, 71)), .inr (.inr (1, 72)), .inr (.inr (1, 73)), .inr (.inr (1, 74)), .inr (.inr (1, 75)), .inr (.inr (1, 76)), .inr (.inr (1, 77)), .inr (.inr (1, 78)), .inl m_base1, .inl m_at1, .inl m_end1, .inl m_number1, .inl m_wrongAt1, .inr (.inr (1, 79)), .inr (.inr (1, 80)), .inr (.inr (1, 81)), .inr (.inr (1, 82)), .inr (.inr (1, 83)), .inr (.inr (1, 84)), .inl m_bestMany1, .inl m_bestHere1, .inl m_bestWorn1, .inl m_bestMinutes1, .inl m_turn1, .inl m_ever1, .inl m_made1, .inl m_ruleHere1, .inl m_ruleMinutes1, .inl m_ruleEver1, .inr (.inr (1, 85)), .inl m_ran1, .inl m_isKept1])) := by rw [fr176 63 (by decide)]; exact c63_1
          have c179 : h174[67]? = some (.inr (0, .inl f67_2)) := by rw [fr176 67 (by decide)]; exact c67_2
          have c180 : h174[70]? = some (.inr (0, .inl f70_3)) := by rw [fr176 70 (by decide)]; exact c70_3
          have c181 : h174[73]? = some (.inr (0, .inl f73_4)) := by rw [fr176 73 (by decide)]; exact c73_4
          obtain ⟨x182, c64_182, f64_182, rfl, l64_182⟩ := zi_g hI175 64 (by decide)
          refine zw_iret dX8_says_40 rfl rfl ?_
          exact hq _ h174 hI175 fr177
      · refine zx_W_ins (pc' := 19) dX8_says_18 rfl (fun _ => rfl) rfl ?_
        refine zw_ic (v := (-1)) (pc' := 20) dX8_says_19 rfl rfl ?_
        refine zw_iv (k := 125) (pc' := 23) dX8_says_20 rfl rfl rfl rfl c63_1 rfl rfl (zc_125 hI (by omega) (fun v183 h184 hI185 fr186 hvv183 _ => ?_))
        show zx_W _ _ _ _ _ _ _ [.inl v183] _ _
        have fr187 : ∀ i, i ∉ ([64] : List Nat) → h184[i]? = h[i]? := fun i hi => Eq.trans (fr186 i (fun z => hi (by first | exact absurd z List.not_mem_nil | (simp only [List.mem_cons, List.not_mem_nil, or_false] at z ⊢; omega)))) (fr0 i hi)
        have c188 : h184[63]? = some (.inl (8, [.inl m_furlongs1, .inl m_many1, .inl m_bagged1, .inl m_legs1, .inl m_most1, .inl m_nap1, .inl m_on1, .inl m_biscuits1, .inl m_races1, .inl m_worn1, .inl m_here1, .inl m_minutes1, .inl m_seed1, .inl m_fault1, .inr (.inr (1, 64)), .inr (.inr (1, 65)), .inr (.inr (1, 66)), .inr (.inr (1, 67)), .inr (.inr (1, 68)), .inr (.inr (1, 69)), .inr (.inr (1, 70)), .inr (.inr (1, 71)), .inr (.inr (1, 72)), .inr (.inr (1, 73)), .inr (.inr (1, 74)), .inr (.inr (1, 75)), .inr (.inr (1, 76)), .inr (.inr (1, 77)), .inr (.inr (1, 78)), .inl m_base1, .inl m_at1, .inl m_end1, .inl m_number1, .inl m_wrongAt1, .inr (.inr (1, 79)), .inr (.inr (1, 80)), .inr (.inr (1, 81)), .inr (.inr (1, 82)), .inr (.inr (1, 83)), .inr (.inr (1, 84)), .inl m_bestMany1, .inl m_bestHere1, .inl m_bestWorn1, .inl m_bestMinutes1, .inl m_turn1, .inl m_ever1, .inl m_made1, .inl m_ruleHere1, .inl m_ruleMinutes1, .inl m_ruleEver1, .inr (.inr (1, 85)), .inl m_ran1, .inl m_isKept1])) := by rw [fr186 63 (by decide)]; exact c63_1
        have c189 : h184[67]? = some (.inr (0, .inl f67_2)) := by rw [fr186 67 (by decide)]; exact c67_2
        have c190 : h184[70]? = some (.inr (0, .inl f70_3)) := by rw [fr186 70 (by decide)]; exact c70_3
        have c191 : h184[73]? = some (.inr (0, .inl f73_4)) := by rw [fr186 73 (by decide)]; exact c73_4
        obtain ⟨x192, c64_192, f64_192, rfl, l64_192⟩ := zi_g hI185 64 (by decide)
        refine zw_iret dX8_says_23 rfl rfl ?_
        exact hq _ h184 hI185 fr187
  · show zx_W _ _ _ _ _ _ _ [.inl 0] _ _
    refine zw_if_eq (tgt := 18) (pc' := 8) dX8_says_5 rfl rfl (fun _ => ?_) (fun g => by first | exact absurd rfl g | exact absurd g (by decide))
    refine zx_W_ins (pc' := 19) dX8_says_18 rfl (fun _ => rfl) rfl ?_
    refine zw_ic (v := (-1)) (pc' := 20) dX8_says_19 rfl rfl ?_
    refine zw_iv (k := 125) (pc' := 23) dX8_says_20 rfl rfl rfl rfl c63_1 rfl rfl (zc_125 hI (by omega) (fun v194 h195 hI196 fr197 hvv194 _ => ?_))
    show zx_W _ _ _ _ _ _ _ [.inl v194] _ _
    have fr198 : ∀ i, i ∉ ([64] : List Nat) → h195[i]? = h[i]? := fun i hi => Eq.trans (fr197 i (fun z => hi (by first | exact absurd z List.not_mem_nil | (simp only [List.mem_cons, List.not_mem_nil, or_false] at z ⊢; omega)))) (fr0 i hi)
    have c199 : h195[63]? = some (.inl (8, [.inl m_furlongs1, .inl m_many1, .inl m_bagged1, .inl m_legs1, .inl m_most1, .inl m_nap1, .inl m_on1, .inl m_biscuits1, .inl m_races1, .inl m_worn1, .inl m_here1, .inl m_minutes1, .inl m_seed1, .inl m_fault1, .inr (.inr (1, 64)), .inr (.inr (1, 65)), .inr (.inr (1, 66)), .inr (.inr (1, 67)), .inr (.inr (1, 68)), .inr (.inr (1, 69)), .inr (.inr (1, 70)), .inr (.inr (1, 71)), .inr (.inr (1, 72)), .inr (.inr (1, 73)), .inr (.inr (1, 74)), .inr (.inr (1, 75)), .inr (.inr (1, 76)), .inr (.inr (1, 77)), .inr (.inr (1, 78)), .inl m_base1, .inl m_at1, .inl m_end1, .inl m_number1, .inl m_wrongAt1, .inr (.inr (1, 79)), .inr (.inr (1, 80)), .inr (.inr (1, 81)), .inr (.inr (1, 82)), .inr (.inr (1, 83)), .inr (.inr (1, 84)), .inl m_bestMany1, .inl m_bestHere1, .inl m_bestWorn1, .inl m_bestMinutes1, .inl m_turn1, .inl m_ever1, .inl m_made1, .inl m_ruleHere1, .inl m_ruleMinutes1, .inl m_ruleEver1, .inr (.inr (1, 85)), .inl m_ran1, .inl m_isKept1])) := by rw [fr197 63 (by decide)]; exact c63_1
    have c200 : h195[67]? = some (.inr (0, .inl f67_2)) := by rw [fr197 67 (by decide)]; exact c67_2
    have c201 : h195[70]? = some (.inr (0, .inl f70_3)) := by rw [fr197 70 (by decide)]; exact c70_3
    have c202 : h195[73]? = some (.inr (0, .inl f73_4)) := by rw [fr197 73 (by decide)]; exact c73_4
    obtain ⟨x203, c64_203, f64_203, rfl, l64_203⟩ := zi_g hI196 64 (by decide)
    refine zw_iret dX8_says_23 rfl rfl ?_
    exact hq _ h195 hI196 fr198
