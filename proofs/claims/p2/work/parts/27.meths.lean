/-! part 27: the reference: asks, furlongs, loads, what may be: laid by wip/p2/meths.py -/
def zt_147 : zx_MT := (8, yX8_told, cX8_told, 2, (some FieldType.int), 1, 0)
theorem zm_147 : zx_m 147 = zt_147 := rfl
theorem dX8_told_0 : decode cX8_told 0 = .ok (.iload_n 1, 1) := by decide +kernel
theorem dX8_told_1 : decode cX8_told 1 = .ok (.ifCond .ne 10, 3) := by decide +kernel
theorem dX8_told_4 : decode cX8_told 4 = .ok (.aload_n 0, 1) := by decide +kernel
theorem dX8_told_5 : decode cX8_told 5 = .ok (.getfield 16, 3) := by decide +kernel
theorem dX8_told_8 : decode cX8_told 8 = .ok (.goto 43, 3) := by decide +kernel
theorem dX8_told_11 : decode cX8_told 11 = .ok (.iload_n 1, 1) := by decide +kernel
theorem dX8_told_12 : decode cX8_told 12 = .ok (.iconst 1, 1) := by decide +kernel
theorem dX8_told_13 : decode cX8_told 13 = .ok (.if_icmp .ne 10, 3) := by decide +kernel
theorem dX8_told_16 : decode cX8_told 16 = .ok (.aload_n 0, 1) := by decide +kernel
theorem dX8_told_17 : decode cX8_told 17 = .ok (.getfield 19, 3) := by decide +kernel
theorem dX8_told_20 : decode cX8_told 20 = .ok (.goto 31, 3) := by decide +kernel
theorem dX8_told_23 : decode cX8_told 23 = .ok (.iload_n 1, 1) := by decide +kernel
theorem dX8_told_24 : decode cX8_told 24 = .ok (.iconst 2, 1) := by decide +kernel
theorem dX8_told_25 : decode cX8_told 25 = .ok (.if_icmp .ne 10, 3) := by decide +kernel
theorem dX8_told_28 : decode cX8_told 28 = .ok (.aload_n 0, 1) := by decide +kernel
theorem dX8_told_29 : decode cX8_told 29 = .ok (.getfield 28, 3) := by decide +kernel
theorem dX8_told_32 : decode cX8_told 32 = .ok (.goto 19, 3) := by decide +kernel
theorem dX8_told_35 : decode cX8_told 35 = .ok (.iload_n 1, 1) := by decide +kernel
theorem dX8_told_36 : decode cX8_told 36 = .ok (.iconst 3, 1) := by decide +kernel
theorem dX8_told_37 : decode cX8_told 37 = .ok (.if_icmp .ne 10, 3) := by decide +kernel
theorem dX8_told_40 : decode cX8_told 40 = .ok (.aload_n 0, 1) := by decide +kernel
theorem dX8_told_41 : decode cX8_told 41 = .ok (.getfield 22, 3) := by decide +kernel
theorem dX8_told_44 : decode cX8_told 44 = .ok (.goto 7, 3) := by decide +kernel
theorem dX8_told_47 : decode cX8_told 47 = .ok (.aload_n 0, 1) := by decide +kernel
theorem dX8_told_48 : decode cX8_told 48 = .ok (.getfield 25, 3) := by decide +kernel
theorem dX8_told_51 : decode cX8_told 51 = .ok (.ireturn, 1) := by decide +kernel
theorem zc_147 {d : Nat} {h : List zx_C} {w : Int32} {Q : Option zx_V → List zx_C → Prop} (hI : zx_I h)    (hq : ∀ (v : Int32) (h2 : List zx_C), zx_I h2 → (∀ i, i ∉ ([] : List Nat) → h2[i]? = h[i]?) → Q (some (.inl v)) h2) : zx_M (d) 147 [.inr (.inr (1, 63)), .inl w] h Q := by
  have el_0 : (0 : Int32).toInt = 0 := by decide
  have el_1 : (1 : Int32).toInt = 1 := by decide
  have el_2 : (2 : Int32).toInt = 2 := by decide
  have el_3 : (3 : Int32).toInt = 3 := by decide
  obtain ⟨x1, c63_1, m_furlongs1, m_many1, m_bagged1, m_legs1, m_most1, m_nap1, m_on1, m_biscuits1, m_races1, m_worn1, m_here1, m_minutes1, m_seed1, m_fault1, m_base1, m_at1, m_end1, m_number1, m_wrongAt1, m_bestMany1, m_bestHere1, m_bestWorn1, m_bestMinutes1, m_turn1, m_ever1, m_made1, m_ruleHere1, m_ruleMinutes1, m_ruleEver1, m_ran1, m_isKept1, rfl, q0_1, q1_1, q2_1, q3_1, q4_1, q5_1, q6_1, q7_1, q8_1⟩ := zi_g hI 63 (by decide)
  have fr0 : ∀ i, i ∉ ([] : List Nat) → h[i]? = h[i]? := fun _ _ => rfl
  refine zx_M_of (Nat.le_of_ble_eq_true rfl) zm_147 (L := [some (.inr (.inr (1, 63))), some (.inl w)]) rfl ?_
  refine zx_W_ins (pc' := 1) dX8_told_0 rfl (fun _ => rfl) rfl ?_
  refine zw_if_ne (tgt := 11) (pc' := 4) dX8_told_1 rfl rfl (fun g2 => ?_) (fun g2 => ?_)
  · have g2t : ¬ (w).toInt = (0 : Int32).toInt := fun z => g2 (Int32.toInt_inj.mp z)
    refine zx_W_ins (pc' := 12) dX8_told_11 rfl (fun _ => rfl) rfl ?_
    refine zw_ic (v := 1) (pc' := 13) dX8_told_12 rfl rfl ?_
    refine zw_icmp_ne (tgt := 23) (pc' := 16) dX8_told_13 rfl rfl (fun g3 => ?_) (fun g3 => ?_)
    · have g3t : ¬ (w).toInt = (1 : Int32).toInt := fun z => g3 (Int32.toInt_inj.mp z)
      refine zx_W_ins (pc' := 24) dX8_told_23 rfl (fun _ => rfl) rfl ?_
      refine zw_ic (v := 2) (pc' := 25) dX8_told_24 rfl rfl ?_
      refine zw_icmp_ne (tgt := 35) (pc' := 28) dX8_told_25 rfl rfl (fun g4 => ?_) (fun g4 => ?_)
      · have g4t : ¬ (w).toInt = (2 : Int32).toInt := fun z => g4 (Int32.toInt_inj.mp z)
        refine zx_W_ins (pc' := 36) dX8_told_35 rfl (fun _ => rfl) rfl ?_
        refine zw_ic (v := 3) (pc' := 37) dX8_told_36 rfl rfl ?_
        refine zw_icmp_ne (tgt := 47) (pc' := 40) dX8_told_37 rfl rfl (fun g5 => ?_) (fun g5 => ?_)
        · have g5t : ¬ (w).toInt = (3 : Int32).toInt := fun z => g5 (Int32.toInt_inj.mp z)
          refine zx_W_ins (pc' := 48) dX8_told_47 rfl (fun _ => rfl) rfl ?_
          refine zw_gf (pc' := 51) dX8_told_48 rfl rfl c63_1 rfl ?_
          refine zw_iret dX8_told_51 rfl rfl ?_
          exact hq _ h hI fr0
        · have g5t : (w).toInt = (3 : Int32).toInt := congrArg Int32.toInt g5
          refine zx_W_ins (pc' := 41) dX8_told_40 rfl (fun _ => rfl) rfl ?_
          refine zw_gf (pc' := 44) dX8_told_41 rfl rfl c63_1 rfl ?_
          refine zw_goto (tgt := 51) dX8_told_44 rfl ?_
          refine zw_iret dX8_told_51 rfl rfl ?_
          exact hq _ h hI fr0
      · have g4t : (w).toInt = (2 : Int32).toInt := congrArg Int32.toInt g4
        refine zx_W_ins (pc' := 29) dX8_told_28 rfl (fun _ => rfl) rfl ?_
        refine zw_gf (pc' := 32) dX8_told_29 rfl rfl c63_1 rfl ?_
        refine zw_goto (tgt := 51) dX8_told_32 rfl ?_
        refine zw_iret dX8_told_51 rfl rfl ?_
        exact hq _ h hI fr0
    · have g3t : (w).toInt = (1 : Int32).toInt := congrArg Int32.toInt g3
      refine zx_W_ins (pc' := 17) dX8_told_16 rfl (fun _ => rfl) rfl ?_
      refine zw_gf (pc' := 20) dX8_told_17 rfl rfl c63_1 rfl ?_
      refine zw_goto (tgt := 51) dX8_told_20 rfl ?_
      refine zw_iret dX8_told_51 rfl rfl ?_
      exact hq _ h hI fr0
  · have g2t : (w).toInt = (0 : Int32).toInt := congrArg Int32.toInt g2
    refine zx_W_ins (pc' := 5) dX8_told_4 rfl (fun _ => rfl) rfl ?_
    refine zw_gf (pc' := 8) dX8_told_5 rfl rfl c63_1 rfl ?_
    refine zw_goto (tgt := 51) dX8_told_8 rfl ?_
    refine zw_iret dX8_told_51 rfl rfl ?_
    exact hq _ h hI fr0
def zt_148 : zx_MT := (8, yX8_tells, cX8_tells, 3, none, 2, 0)
theorem zm_148 : zx_m 148 = zt_148 := rfl
theorem dX8_tells_0 : decode cX8_tells 0 = .ok (.iload_n 1, 1) := by decide +kernel
theorem dX8_tells_1 : decode cX8_tells 1 = .ok (.tableswitch 63 0 3 #[31, 39, 47, 55], 31) := by decide +kernel
theorem dX8_tells_32 : decode cX8_tells 32 = .ok (.aload_n 0, 1) := by decide +kernel
theorem dX8_tells_33 : decode cX8_tells 33 = .ok (.iload_n 2, 1) := by decide +kernel
theorem dX8_tells_34 : decode cX8_tells 34 = .ok (.putfield 16, 3) := by decide +kernel
theorem dX8_tells_37 : decode cX8_tells 37 = .ok (.goto 32, 3) := by decide +kernel
theorem dX8_tells_40 : decode cX8_tells 40 = .ok (.aload_n 0, 1) := by decide +kernel
theorem dX8_tells_41 : decode cX8_tells 41 = .ok (.iload_n 2, 1) := by decide +kernel
theorem dX8_tells_42 : decode cX8_tells 42 = .ok (.putfield 19, 3) := by decide +kernel
theorem dX8_tells_45 : decode cX8_tells 45 = .ok (.goto 24, 3) := by decide +kernel
theorem dX8_tells_48 : decode cX8_tells 48 = .ok (.aload_n 0, 1) := by decide +kernel
theorem dX8_tells_49 : decode cX8_tells 49 = .ok (.iload_n 2, 1) := by decide +kernel
theorem dX8_tells_50 : decode cX8_tells 50 = .ok (.putfield 28, 3) := by decide +kernel
theorem dX8_tells_53 : decode cX8_tells 53 = .ok (.goto 16, 3) := by decide +kernel
theorem dX8_tells_56 : decode cX8_tells 56 = .ok (.aload_n 0, 1) := by decide +kernel
theorem dX8_tells_57 : decode cX8_tells 57 = .ok (.iload_n 2, 1) := by decide +kernel
theorem dX8_tells_58 : decode cX8_tells 58 = .ok (.putfield 22, 3) := by decide +kernel
theorem dX8_tells_61 : decode cX8_tells 61 = .ok (.goto 8, 3) := by decide +kernel
theorem dX8_tells_64 : decode cX8_tells 64 = .ok (.aload_n 0, 1) := by decide +kernel
theorem dX8_tells_65 : decode cX8_tells 65 = .ok (.iload_n 2, 1) := by decide +kernel
theorem dX8_tells_66 : decode cX8_tells 66 = .ok (.putfield 25, 3) := by decide +kernel
theorem dX8_tells_69 : decode cX8_tells 69 = .ok (.return_, 1) := by decide +kernel
theorem zc_148 {d : Nat} {h : List zx_C} {w : Int32} {q : Int32} {Q : Option zx_V → List zx_C → Prop} (hI : zx_I h)    (hq : ∀ (h2 : List zx_C), zx_I h2 → (∀ i, i ∉ ([63] : List Nat) → h2[i]? = h[i]?) → Q none h2) : zx_M (d) 148 [.inr (.inr (1, 63)), .inl w, .inl q] h Q := by
  obtain ⟨x1, c63_1, m_furlongs1, m_many1, m_bagged1, m_legs1, m_most1, m_nap1, m_on1, m_biscuits1, m_races1, m_worn1, m_here1, m_minutes1, m_seed1, m_fault1, m_base1, m_at1, m_end1, m_number1, m_wrongAt1, m_bestMany1, m_bestHere1, m_bestWorn1, m_bestMinutes1, m_turn1, m_ever1, m_made1, m_ruleHere1, m_ruleMinutes1, m_ruleEver1, m_ran1, m_isKept1, rfl, q0_1, q1_1, q2_1, q3_1, q4_1, q5_1, q6_1, q7_1, q8_1⟩ := zi_g hI 63 (by decide)
  have fr0 : ∀ i, i ∉ ([63] : List Nat) → h[i]? = h[i]? := fun _ _ => rfl
  refine zx_M_of (Nat.le_of_ble_eq_true rfl) zm_148 (L := [some (.inr (.inr (1, 63))), some (.inl w), some (.inl q)]) rfl ?_
  refine zx_W_ins (pc' := 1) dX8_tells_0 rfl (fun _ => rfl) rfl ?_
  refine zw_tsc (tgd := 64) dX8_tells_1 rfl [32, 40, 48, 56] (by decide) (by decide) (fun g2 => ?_) (zl_cons (fun g2 => ?_) (zl_cons (fun g2 => ?_) (zl_cons (fun g2 => ?_) (zl_cons (fun g2 => ?_) (zl_nil)))))
  · refine zx_W_ins (pc' := 65) dX8_tells_64 rfl (fun _ => rfl) rfl ?_
    refine zx_W_ins (pc' := 66) dX8_tells_65 rfl (fun _ => rfl) rfl ?_
    refine zw_pf (pc' := 69) dX8_tells_66 rfl rfl c63_1 rfl (fs' := [.inl m_furlongs1, .inl m_many1, .inl m_bagged1, .inl m_legs1, .inl m_most1, .inl m_nap1, .inl m_on1, .inl m_biscuits1, .inl q, .inl m_worn1, .inl m_here1, .inl m_minutes1, .inl m_seed1, .inl m_fault1, .inr (.inr (1, 64)), .inr (.inr (1, 65)), .inr (.inr (1, 66)), .inr (.inr (1, 67)), .inr (.inr (1, 68)), .inr (.inr (1, 69)), .inr (.inr (1, 70)), .inr (.inr (1, 71)), .inr (.inr (1, 72)), .inr (.inr (1, 73)), .inr (.inr (1, 74)), .inr (.inr (1, 75)), .inr (.inr (1, 76)), .inr (.inr (1, 77)), .inr (.inr (1, 78)), .inl m_base1, .inl m_at1, .inl m_end1, .inl m_number1, .inl m_wrongAt1, .inr (.inr (1, 79)), .inr (.inr (1, 80)), .inr (.inr (1, 81)), .inr (.inr (1, 82)), .inr (.inr (1, 83)), .inr (.inr (1, 84)), .inl m_bestMany1, .inl m_bestHere1, .inl m_bestWorn1, .inl m_bestMinutes1, .inl m_turn1, .inl m_ever1, .inl m_made1, .inl m_ruleHere1, .inl m_ruleMinutes1, .inl m_ruleEver1, .inr (.inr (1, 85)), .inl m_ran1, .inl m_isKept1]) rfl ?_
    obtain ⟨h3, e4⟩ : ∃ z, z = h.set 63 (.inl (8, [.inl m_furlongs1, .inl m_many1, .inl m_bagged1, .inl m_legs1, .inl m_most1, .inl m_nap1, .inl m_on1, .inl m_biscuits1, .inl q, .inl m_worn1, .inl m_here1, .inl m_minutes1, .inl m_seed1, .inl m_fault1, .inr (.inr (1, 64)), .inr (.inr (1, 65)), .inr (.inr (1, 66)), .inr (.inr (1, 67)), .inr (.inr (1, 68)), .inr (.inr (1, 69)), .inr (.inr (1, 70)), .inr (.inr (1, 71)), .inr (.inr (1, 72)), .inr (.inr (1, 73)), .inr (.inr (1, 74)), .inr (.inr (1, 75)), .inr (.inr (1, 76)), .inr (.inr (1, 77)), .inr (.inr (1, 78)), .inl m_base1, .inl m_at1, .inl m_end1, .inl m_number1, .inl m_wrongAt1, .inr (.inr (1, 79)), .inr (.inr (1, 80)), .inr (.inr (1, 81)), .inr (.inr (1, 82)), .inr (.inr (1, 83)), .inr (.inr (1, 84)), .inl m_bestMany1, .inl m_bestHere1, .inl m_bestWorn1, .inl m_bestMinutes1, .inl m_turn1, .inl m_ever1, .inl m_made1, .inl m_ruleHere1, .inl m_ruleMinutes1, .inl m_ruleEver1, .inr (.inr (1, 85)), .inl m_ran1, .inl m_isKept1])) := ⟨_, rfl⟩
    rw [← e4]
    have c5 : h3[63]? = some (.inl (8, [.inl m_furlongs1, .inl m_many1, .inl m_bagged1, .inl m_legs1, .inl m_most1, .inl m_nap1, .inl m_on1, .inl m_biscuits1, .inl q, .inl m_worn1, .inl m_here1, .inl m_minutes1, .inl m_seed1, .inl m_fault1, .inr (.inr (1, 64)), .inr (.inr (1, 65)), .inr (.inr (1, 66)), .inr (.inr (1, 67)), .inr (.inr (1, 68)), .inr (.inr (1, 69)), .inr (.inr (1, 70)), .inr (.inr (1, 71)), .inr (.inr (1, 72)), .inr (.inr (1, 73)), .inr (.inr (1, 74)), .inr (.inr (1, 75)), .inr (.inr (1, 76)), .inr (.inr (1, 77)), .inr (.inr (1, 78)), .inl m_base1, .inl m_at1, .inl m_end1, .inl m_number1, .inl m_wrongAt1, .inr (.inr (1, 79)), .inr (.inr (1, 80)), .inr (.inr (1, 81)), .inr (.inr (1, 82)), .inr (.inr (1, 83)), .inr (.inr (1, 84)), .inl m_bestMany1, .inl m_bestHere1, .inl m_bestWorn1, .inl m_bestMinutes1, .inl m_turn1, .inl m_ever1, .inl m_made1, .inl m_ruleHere1, .inl m_ruleMinutes1, .inl m_ruleEver1, .inr (.inr (1, 85)), .inl m_ran1, .inl m_isKept1])) := by rw [e4, List.getElem?_set_self (List.getElem?_eq_some_iff.mp c63_1).1]
    have hI6 : zx_I h3 := by rw [e4]; exact zi_set hI (show zc_ref _ from ⟨_, _, _, _, _, _, _, _, _, _, _, _, _, _, _, _, _, _, _, _, _, _, _, _, _, _, _, _, _, _, _, rfl, by omega, by omega, by omega, by omega, by omega, by omega, by omega, by omega, by assumption⟩) (by decide) (by decide)
    have fr7 : ∀ i, i ∉ ([63] : List Nat) → h3[i]? = h[i]? := fun i hi => Eq.trans (b := h[i]?) (by rw [e4, List.getElem?_set_ne (fun z => hi (by rw [← z]; decide))]) (fr0 i hi)
    refine zw_vret dX8_tells_69 rfl ?_
    exact hq h3 hI6 fr7
  · refine zx_W_ins (pc' := 33) dX8_tells_32 rfl (fun _ => rfl) rfl ?_
    refine zx_W_ins (pc' := 34) dX8_tells_33 rfl (fun _ => rfl) rfl ?_
    refine zw_pf (pc' := 37) dX8_tells_34 rfl rfl c63_1 rfl (fs' := [.inl m_furlongs1, .inl m_many1, .inl m_bagged1, .inl m_legs1, .inl q, .inl m_nap1, .inl m_on1, .inl m_biscuits1, .inl m_races1, .inl m_worn1, .inl m_here1, .inl m_minutes1, .inl m_seed1, .inl m_fault1, .inr (.inr (1, 64)), .inr (.inr (1, 65)), .inr (.inr (1, 66)), .inr (.inr (1, 67)), .inr (.inr (1, 68)), .inr (.inr (1, 69)), .inr (.inr (1, 70)), .inr (.inr (1, 71)), .inr (.inr (1, 72)), .inr (.inr (1, 73)), .inr (.inr (1, 74)), .inr (.inr (1, 75)), .inr (.inr (1, 76)), .inr (.inr (1, 77)), .inr (.inr (1, 78)), .inl m_base1, .inl m_at1, .inl m_end1, .inl m_number1, .inl m_wrongAt1, .inr (.inr (1, 79)), .inr (.inr (1, 80)), .inr (.inr (1, 81)), .inr (.inr (1, 82)), .inr (.inr (1, 83)), .inr (.inr (1, 84)), .inl m_bestMany1, .inl m_bestHere1, .inl m_bestWorn1, .inl m_bestMinutes1, .inl m_turn1, .inl m_ever1, .inl m_made1, .inl m_ruleHere1, .inl m_ruleMinutes1, .inl m_ruleEver1, .inr (.inr (1, 85)), .inl m_ran1, .inl m_isKept1]) rfl ?_
    obtain ⟨h8, e9⟩ : ∃ z, z = h.set 63 (.inl (8, [.inl m_furlongs1, .inl m_many1, .inl m_bagged1, .inl m_legs1, .inl q, .inl m_nap1, .inl m_on1, .inl m_biscuits1, .inl m_races1, .inl m_worn1, .inl m_here1, .inl m_minutes1, .inl m_seed1, .inl m_fault1, .inr (.inr (1, 64)), .inr (.inr (1, 65)), .inr (.inr (1, 66)), .inr (.inr (1, 67)), .inr (.inr (1, 68)), .inr (.inr (1, 69)), .inr (.inr (1, 70)), .inr (.inr (1, 71)), .inr (.inr (1, 72)), .inr (.inr (1, 73)), .inr (.inr (1, 74)), .inr (.inr (1, 75)), .inr (.inr (1, 76)), .inr (.inr (1, 77)), .inr (.inr (1, 78)), .inl m_base1, .inl m_at1, .inl m_end1, .inl m_number1, .inl m_wrongAt1, .inr (.inr (1, 79)), .inr (.inr (1, 80)), .inr (.inr (1, 81)), .inr (.inr (1, 82)), .inr (.inr (1, 83)), .inr (.inr (1, 84)), .inl m_bestMany1, .inl m_bestHere1, .inl m_bestWorn1, .inl m_bestMinutes1, .inl m_turn1, .inl m_ever1, .inl m_made1, .inl m_ruleHere1, .inl m_ruleMinutes1, .inl m_ruleEver1, .inr (.inr (1, 85)), .inl m_ran1, .inl m_isKept1])) := ⟨_, rfl⟩
    rw [← e9]
    have c10 : h8[63]? = some (.inl (8, [.inl m_furlongs1, .inl m_many1, .inl m_bagged1, .inl m_legs1, .inl q, .inl m_nap1, .inl m_on1, .inl m_biscuits1, .inl m_races1, .inl m_worn1, .inl m_here1, .inl m_minutes1, .inl m_seed1, .inl m_fault1, .inr (.inr (1, 64)), .inr (.inr (1, 65)), .inr (.inr (1, 66)), .inr (.inr (1, 67)), .inr (.inr (1, 68)), .inr (.inr (1, 69)), .inr (.inr (1, 70)), .inr (.inr (1, 71)), .inr (.inr (1, 72)), .inr (.inr (1, 73)), .inr (.inr (1, 74)), .inr (.inr (1, 75)), .inr (.inr (1, 76)), .inr (.inr (1, 77)), .inr (.inr (1, 78)), .inl m_base1, .inl m_at1, .inl m_end1, .inl m_number1, .inl m_wrongAt1, .inr (.inr (1, 79)), .inr (.inr (1, 80)), .inr (.inr (1, 81)), .inr (.inr (1, 82)), .inr (.inr (1, 83)), .inr (.inr (1, 84)), .inl m_bestMany1, .inl m_bestHere1, .inl m_bestWorn1, .inl m_bestMinutes1, .inl m_turn1, .inl m_ever1, .inl m_made1, .inl m_ruleHere1, .inl m_ruleMinutes1, .inl m_ruleEver1, .inr (.inr (1, 85)), .inl m_ran1, .inl m_isKept1])) := by rw [e9, List.getElem?_set_self (List.getElem?_eq_some_iff.mp c63_1).1]
    have hI11 : zx_I h8 := by rw [e9]; exact zi_set hI (show zc_ref _ from ⟨_, _, _, _, _, _, _, _, _, _, _, _, _, _, _, _, _, _, _, _, _, _, _, _, _, _, _, _, _, _, _, rfl, by omega, by omega, by omega, by omega, by omega, by omega, by omega, by omega, by assumption⟩) (by decide) (by decide)
    have fr12 : ∀ i, i ∉ ([63] : List Nat) → h8[i]? = h[i]? := fun i hi => Eq.trans (b := h[i]?) (by rw [e9, List.getElem?_set_ne (fun z => hi (by rw [← z]; decide))]) (fr0 i hi)
    refine zw_goto (tgt := 69) dX8_tells_37 rfl ?_
    refine zw_vret dX8_tells_69 rfl ?_
    exact hq h8 hI11 fr12
  · refine zx_W_ins (pc' := 41) dX8_tells_40 rfl (fun _ => rfl) rfl ?_
    refine zx_W_ins (pc' := 42) dX8_tells_41 rfl (fun _ => rfl) rfl ?_
    refine zw_pf (pc' := 45) dX8_tells_42 rfl rfl c63_1 rfl (fs' := [.inl m_furlongs1, .inl m_many1, .inl m_bagged1, .inl m_legs1, .inl m_most1, .inl q, .inl m_on1, .inl m_biscuits1, .inl m_races1, .inl m_worn1, .inl m_here1, .inl m_minutes1, .inl m_seed1, .inl m_fault1, .inr (.inr (1, 64)), .inr (.inr (1, 65)), .inr (.inr (1, 66)), .inr (.inr (1, 67)), .inr (.inr (1, 68)), .inr (.inr (1, 69)), .inr (.inr (1, 70)), .inr (.inr (1, 71)), .inr (.inr (1, 72)), .inr (.inr (1, 73)), .inr (.inr (1, 74)), .inr (.inr (1, 75)), .inr (.inr (1, 76)), .inr (.inr (1, 77)), .inr (.inr (1, 78)), .inl m_base1, .inl m_at1, .inl m_end1, .inl m_number1, .inl m_wrongAt1, .inr (.inr (1, 79)), .inr (.inr (1, 80)), .inr (.inr (1, 81)), .inr (.inr (1, 82)), .inr (.inr (1, 83)), .inr (.inr (1, 84)), .inl m_bestMany1, .inl m_bestHere1, .inl m_bestWorn1, .inl m_bestMinutes1, .inl m_turn1, .inl m_ever1, .inl m_made1, .inl m_ruleHere1, .inl m_ruleMinutes1, .inl m_ruleEver1, .inr (.inr (1, 85)), .inl m_ran1, .inl m_isKept1]) rfl ?_
    obtain ⟨h13, e14⟩ : ∃ z, z = h.set 63 (.inl (8, [.inl m_furlongs1, .inl m_many1, .inl m_bagged1, .inl m_legs1, .inl m_most1, .inl q, .inl m_on1, .inl m_biscuits1, .inl m_races1, .inl m_worn1, .inl m_here1, .inl m_minutes1, .inl m_seed1, .inl m_fault1, .inr (.inr (1, 64)), .inr (.inr (1, 65)), .inr (.inr (1, 66)), .inr (.inr (1, 67)), .inr (.inr (1, 68)), .inr (.inr (1, 69)), .inr (.inr (1, 70)), .inr (.inr (1, 71)), .inr (.inr (1, 72)), .inr (.inr (1, 73)), .inr (.inr (1, 74)), .inr (.inr (1, 75)), .inr (.inr (1, 76)), .inr (.inr (1, 77)), .inr (.inr (1, 78)), .inl m_base1, .inl m_at1, .inl m_end1, .inl m_number1, .inl m_wrongAt1, .inr (.inr (1, 79)), .inr (.inr (1, 80)), .inr (.inr (1, 81)), .inr (.inr (1, 82)), .inr (.inr (1, 83)), .inr (.inr (1, 84)), .inl m_bestMany1, .inl m_bestHere1, .inl m_bestWorn1, .inl m_bestMinutes1, .inl m_turn1, .inl m_ever1, .inl m_made1, .inl m_ruleHere1, .inl m_ruleMinutes1, .inl m_ruleEver1, .inr (.inr (1, 85)), .inl m_ran1, .inl m_isKept1])) := ⟨_, rfl⟩
    rw [← e14]
    have c15 : h13[63]? = some (.inl (8, [.inl m_furlongs1, .inl m_many1, .inl m_bagged1, .inl m_legs1, .inl m_most1, .inl q, .inl m_on1, .inl m_biscuits1, .inl m_races1, .inl m_worn1, .inl m_here1, .inl m_minutes1, .inl m_seed1, .inl m_fault1, .inr (.inr (1, 64)), .inr (.inr (1, 65)), .inr (.inr (1, 66)), .inr (.inr (1, 67)), .inr (.inr (1, 68)), .inr (.inr (1, 69)), .inr (.inr (1, 70)), .inr (.inr (1, 71)), .inr (.inr (1, 72)), .inr (.inr (1, 73)), .inr (.inr (1, 74)), .inr (.inr (1, 75)), .inr (.inr (1, 76)), .inr (.inr (1, 77)), .inr (.inr (1, 78)), .inl m_base1, .inl m_at1, .inl m_end1, .inl m_number1, .inl m_wrongAt1, .inr (.inr (1, 79)), .inr (.inr (1, 80)), .inr (.inr (1, 81)), .inr (.inr (1, 82)), .inr (.inr (1, 83)), .inr (.inr (1, 84)), .inl m_bestMany1, .inl m_bestHere1, .inl m_bestWorn1, .inl m_bestMinutes1, .inl m_turn1, .inl m_ever1, .inl m_made1, .inl m_ruleHere1, .inl m_ruleMinutes1, .inl m_ruleEver1, .inr (.inr (1, 85)), .inl m_ran1, .inl m_isKept1])) := by rw [e14, List.getElem?_set_self (List.getElem?_eq_some_iff.mp c63_1).1]
    have hI16 : zx_I h13 := by rw [e14]; exact zi_set hI (show zc_ref _ from ⟨_, _, _, _, _, _, _, _, _, _, _, _, _, _, _, _, _, _, _, _, _, _, _, _, _, _, _, _, _, _, _, rfl, by omega, by omega, by omega, by omega, by omega, by omega, by omega, by omega, by assumption⟩) (by decide) (by decide)
    have fr17 : ∀ i, i ∉ ([63] : List Nat) → h13[i]? = h[i]? := fun i hi => Eq.trans (b := h[i]?) (by rw [e14, List.getElem?_set_ne (fun z => hi (by rw [← z]; decide))]) (fr0 i hi)
    refine zw_goto (tgt := 69) dX8_tells_45 rfl ?_
    refine zw_vret dX8_tells_69 rfl ?_
    exact hq h13 hI16 fr17
  · refine zx_W_ins (pc' := 49) dX8_tells_48 rfl (fun _ => rfl) rfl ?_
    refine zx_W_ins (pc' := 50) dX8_tells_49 rfl (fun _ => rfl) rfl ?_
    refine zw_pf (pc' := 53) dX8_tells_50 rfl rfl c63_1 rfl (fs' := [.inl m_furlongs1, .inl m_many1, .inl m_bagged1, .inl m_legs1, .inl m_most1, .inl m_nap1, .inl m_on1, .inl m_biscuits1, .inl m_races1, .inl q, .inl m_here1, .inl m_minutes1, .inl m_seed1, .inl m_fault1, .inr (.inr (1, 64)), .inr (.inr (1, 65)), .inr (.inr (1, 66)), .inr (.inr (1, 67)), .inr (.inr (1, 68)), .inr (.inr (1, 69)), .inr (.inr (1, 70)), .inr (.inr (1, 71)), .inr (.inr (1, 72)), .inr (.inr (1, 73)), .inr (.inr (1, 74)), .inr (.inr (1, 75)), .inr (.inr (1, 76)), .inr (.inr (1, 77)), .inr (.inr (1, 78)), .inl m_base1, .inl m_at1, .inl m_end1, .inl m_number1, .inl m_wrongAt1, .inr (.inr (1, 79)), .inr (.inr (1, 80)), .inr (.inr (1, 81)), .inr (.inr (1, 82)), .inr (.inr (1, 83)), .inr (.inr (1, 84)), .inl m_bestMany1, .inl m_bestHere1, .inl m_bestWorn1, .inl m_bestMinutes1, .inl m_turn1, .inl m_ever1, .inl m_made1, .inl m_ruleHere1, .inl m_ruleMinutes1, .inl m_ruleEver1, .inr (.inr (1, 85)), .inl m_ran1, .inl m_isKept1]) rfl ?_
    obtain ⟨h18, e19⟩ : ∃ z, z = h.set 63 (.inl (8, [.inl m_furlongs1, .inl m_many1, .inl m_bagged1, .inl m_legs1, .inl m_most1, .inl m_nap1, .inl m_on1, .inl m_biscuits1, .inl m_races1, .inl q, .inl m_here1, .inl m_minutes1, .inl m_seed1, .inl m_fault1, .inr (.inr (1, 64)), .inr (.inr (1, 65)), .inr (.inr (1, 66)), .inr (.inr (1, 67)), .inr (.inr (1, 68)), .inr (.inr (1, 69)), .inr (.inr (1, 70)), .inr (.inr (1, 71)), .inr (.inr (1, 72)), .inr (.inr (1, 73)), .inr (.inr (1, 74)), .inr (.inr (1, 75)), .inr (.inr (1, 76)), .inr (.inr (1, 77)), .inr (.inr (1, 78)), .inl m_base1, .inl m_at1, .inl m_end1, .inl m_number1, .inl m_wrongAt1, .inr (.inr (1, 79)), .inr (.inr (1, 80)), .inr (.inr (1, 81)), .inr (.inr (1, 82)), .inr (.inr (1, 83)), .inr (.inr (1, 84)), .inl m_bestMany1, .inl m_bestHere1, .inl m_bestWorn1, .inl m_bestMinutes1, .inl m_turn1, .inl m_ever1, .inl m_made1, .inl m_ruleHere1, .inl m_ruleMinutes1, .inl m_ruleEver1, .inr (.inr (1, 85)), .inl m_ran1, .inl m_isKept1])) := ⟨_, rfl⟩
    rw [← e19]
    have c20 : h18[63]? = some (.inl (8, [.inl m_furlongs1, .inl m_many1, .inl m_bagged1, .inl m_legs1, .inl m_most1, .inl m_nap1, .inl m_on1, .inl m_biscuits1, .inl m_races1, .inl q, .inl m_here1, .inl m_minutes1, .inl m_seed1, .inl m_fault1, .inr (.inr (1, 64)), .inr (.inr (1, 65)), .inr (.inr (1, 66)), .inr (.inr (1, 67)), .inr (.inr (1, 68)), .inr (.inr (1, 69)), .inr (.inr (1, 70)), .inr (.inr (1, 71)), .inr (.inr (1, 72)), .inr (.inr (1, 73)), .inr (.inr (1, 74)), .inr (.inr (1, 75)), .inr (.inr (1, 76)), .inr (.inr (1, 77)), .inr (.inr (1, 78)), .inl m_base1, .inl m_at1, .inl m_end1, .inl m_number1, .inl m_wrongAt1, .inr (.inr (1, 79)), .inr (.inr (1, 80)), .inr (.inr (1, 81)), .inr (.inr (1, 82)), .inr (.inr (1, 83)), .inr (.inr (1, 84)), .inl m_bestMany1, .inl m_bestHere1, .inl m_bestWorn1, .inl m_bestMinutes1, .inl m_turn1, .inl m_ever1, .inl m_made1, .inl m_ruleHere1, .inl m_ruleMinutes1, .inl m_ruleEver1, .inr (.inr (1, 85)), .inl m_ran1, .inl m_isKept1])) := by rw [e19, List.getElem?_set_self (List.getElem?_eq_some_iff.mp c63_1).1]
    have hI21 : zx_I h18 := by rw [e19]; exact zi_set hI (show zc_ref _ from ⟨_, _, _, _, _, _, _, _, _, _, _, _, _, _, _, _, _, _, _, _, _, _, _, _, _, _, _, _, _, _, _, rfl, by omega, by omega, by omega, by omega, by omega, by omega, by omega, by omega, by assumption⟩) (by decide) (by decide)
    have fr22 : ∀ i, i ∉ ([63] : List Nat) → h18[i]? = h[i]? := fun i hi => Eq.trans (b := h[i]?) (by rw [e19, List.getElem?_set_ne (fun z => hi (by rw [← z]; decide))]) (fr0 i hi)
    refine zw_goto (tgt := 69) dX8_tells_53 rfl ?_
    refine zw_vret dX8_tells_69 rfl ?_
    exact hq h18 hI21 fr22
  · refine zx_W_ins (pc' := 57) dX8_tells_56 rfl (fun _ => rfl) rfl ?_
    refine zx_W_ins (pc' := 58) dX8_tells_57 rfl (fun _ => rfl) rfl ?_
    refine zw_pf (pc' := 61) dX8_tells_58 rfl rfl c63_1 rfl (fs' := [.inl m_furlongs1, .inl m_many1, .inl m_bagged1, .inl m_legs1, .inl m_most1, .inl m_nap1, .inl m_on1, .inl q, .inl m_races1, .inl m_worn1, .inl m_here1, .inl m_minutes1, .inl m_seed1, .inl m_fault1, .inr (.inr (1, 64)), .inr (.inr (1, 65)), .inr (.inr (1, 66)), .inr (.inr (1, 67)), .inr (.inr (1, 68)), .inr (.inr (1, 69)), .inr (.inr (1, 70)), .inr (.inr (1, 71)), .inr (.inr (1, 72)), .inr (.inr (1, 73)), .inr (.inr (1, 74)), .inr (.inr (1, 75)), .inr (.inr (1, 76)), .inr (.inr (1, 77)), .inr (.inr (1, 78)), .inl m_base1, .inl m_at1, .inl m_end1, .inl m_number1, .inl m_wrongAt1, .inr (.inr (1, 79)), .inr (.inr (1, 80)), .inr (.inr (1, 81)), .inr (.inr (1, 82)), .inr (.inr (1, 83)), .inr (.inr (1, 84)), .inl m_bestMany1, .inl m_bestHere1, .inl m_bestWorn1, .inl m_bestMinutes1, .inl m_turn1, .inl m_ever1, .inl m_made1, .inl m_ruleHere1, .inl m_ruleMinutes1, .inl m_ruleEver1, .inr (.inr (1, 85)), .inl m_ran1, .inl m_isKept1]) rfl ?_
    obtain ⟨h23, e24⟩ : ∃ z, z = h.set 63 (.inl (8, [.inl m_furlongs1, .inl m_many1, .inl m_bagged1, .inl m_legs1, .inl m_most1, .inl m_nap1, .inl m_on1, .inl q, .inl m_races1, .inl m_worn1, .inl m_here1, .inl m_minutes1, .inl m_seed1, .inl m_fault1, .inr (.inr (1, 64)), .inr (.inr (1, 65)), .inr (.inr (1, 66)), .inr (.inr (1, 67)), .inr (.inr (1, 68)), .inr (.inr (1, 69)), .inr (.inr (1, 70)), .inr (.inr (1, 71)), .inr (.inr (1, 72)), .inr (.inr (1, 73)), .inr (.inr (1, 74)), .inr (.inr (1, 75)), .inr (.inr (1, 76)), .inr (.inr (1, 77)), .inr (.inr (1, 78)), .inl m_base1, .inl m_at1, .inl m_end1, .inl m_number1, .inl m_wrongAt1, .inr (.inr (1, 79)), .inr (.inr (1, 80)), .inr (.inr (1, 81)), .inr (.inr (1, 82)), .inr (.inr (1, 83)), .inr (.inr (1, 84)), .inl m_bestMany1, .inl m_bestHere1, .inl m_bestWorn1, .inl m_bestMinutes1, .inl m_turn1, .inl m_ever1, .inl m_made1, .inl m_ruleHere1, .inl m_ruleMinutes1, .inl m_ruleEver1, .inr (.inr (1, 85)), .inl m_ran1, .inl m_isKept1])) := ⟨_, rfl⟩
    rw [← e24]
    have c25 : h23[63]? = some (.inl (8, [.inl m_furlongs1, .inl m_many1, .inl m_bagged1, .inl m_legs1, .inl m_most1, .inl m_nap1, .inl m_on1, .inl q, .inl m_races1, .inl m_worn1, .inl m_here1, .inl m_minutes1, .inl m_seed1, .inl m_fault1, .inr (.inr (1, 64)), .inr (.inr (1, 65)), .inr (.inr (1, 66)), .inr (.inr (1, 67)), .inr (.inr (1, 68)), .inr (.inr (1, 69)), .inr (.inr (1, 70)), .inr (.inr (1, 71)), .inr (.inr (1, 72)), .inr (.inr (1, 73)), .inr (.inr (1, 74)), .inr (.inr (1, 75)), .inr (.inr (1, 76)), .inr (.inr (1, 77)), .inr (.inr (1, 78)), .inl m_base1, .inl m_at1, .inl m_end1, .inl m_number1, .inl m_wrongAt1, .inr (.inr (1, 79)), .inr (.inr (1, 80)), .inr (.inr (1, 81)), .inr (.inr (1, 82)), .inr (.inr (1, 83)), .inr (.inr (1, 84)), .inl m_bestMany1, .inl m_bestHere1, .inl m_bestWorn1, .inl m_bestMinutes1, .inl m_turn1, .inl m_ever1, .inl m_made1, .inl m_ruleHere1, .inl m_ruleMinutes1, .inl m_ruleEver1, .inr (.inr (1, 85)), .inl m_ran1, .inl m_isKept1])) := by rw [e24, List.getElem?_set_self (List.getElem?_eq_some_iff.mp c63_1).1]
    have hI26 : zx_I h23 := by rw [e24]; exact zi_set hI (show zc_ref _ from ⟨_, _, _, _, _, _, _, _, _, _, _, _, _, _, _, _, _, _, _, _, _, _, _, _, _, _, _, _, _, _, _, rfl, by omega, by omega, by omega, by omega, by omega, by omega, by omega, by omega, by assumption⟩) (by decide) (by decide)
    have fr27 : ∀ i, i ∉ ([63] : List Nat) → h23[i]? = h[i]? := fun i hi => Eq.trans (b := h[i]?) (by rw [e24, List.getElem?_set_ne (fun z => hi (by rw [← z]; decide))]) (fr0 i hi)
    refine zw_goto (tgt := 69) dX8_tells_61 rfl ?_
    refine zw_vret dX8_tells_69 rfl ?_
    exact hq h23 hI26 fr27
def zt_149 : zx_MT := (8, yX8_asks, cX8_asks, 4, (some FieldType.int), 2, 0)
theorem zm_149 : zx_m 149 = zt_149 := rfl
theorem dX8_asks_0 : decode cX8_asks 0 = .ok (.aload_n 0, 1) := by decide +kernel
theorem dX8_asks_1 : decode cX8_asks 1 = .ok (.iload_n 1, 1) := by decide +kernel
theorem dX8_asks_2 : decode cX8_asks 2 = .ok (.invokevirtual 145, 3) := by decide +kernel
theorem dX8_asks_5 : decode cX8_asks 5 = .ok (.istore_n 3, 1) := by decide +kernel
theorem dX8_asks_6 : decode cX8_asks 6 = .ok (.aload_n 0, 1) := by decide +kernel
theorem dX8_asks_7 : decode cX8_asks 7 = .ok (.iload_n 1, 1) := by decide +kernel
theorem dX8_asks_8 : decode cX8_asks 8 = .ok (.iload_n 2, 1) := by decide +kernel
theorem dX8_asks_9 : decode cX8_asks 9 = .ok (.invokevirtual 148, 3) := by decide +kernel
theorem dX8_asks_12 : decode cX8_asks 12 = .ok (.iload_n 1, 1) := by decide +kernel
theorem dX8_asks_13 : decode cX8_asks 13 = .ok (.ifCond .ne 16, 3) := by decide +kernel
theorem dX8_asks_16 : decode cX8_asks 16 = .ok (.aload_n 0, 1) := by decide +kernel
theorem dX8_asks_17 : decode cX8_asks 17 = .ok (.getfield 13, 3) := by decide +kernel
theorem dX8_asks_20 : decode cX8_asks 20 = .ok (.iload_n 2, 1) := by decide +kernel
theorem dX8_asks_21 : decode cX8_asks 21 = .ok (.if_icmp .le 8, 3) := by decide +kernel
theorem dX8_asks_24 : decode cX8_asks 24 = .ok (.aload_n 0, 1) := by decide +kernel
theorem dX8_asks_25 : decode cX8_asks 25 = .ok (.iload_n 2, 1) := by decide +kernel
theorem dX8_asks_26 : decode cX8_asks 26 = .ok (.putfield 13, 3) := by decide +kernel
theorem dX8_asks_29 : decode cX8_asks 29 = .ok (.iload_n 3, 1) := by decide +kernel
theorem dX8_asks_30 : decode cX8_asks 30 = .ok (.ireturn, 1) := by decide +kernel
theorem zc_149 {d : Nat} {h : List zx_C} {w : Int32} {q : Int32} {Q : Option zx_V → List zx_C → Prop} (hI : zx_I h)    (hq : ∀ (v : Int32) (h2 : List zx_C), zx_I h2 → (∀ i, i ∉ ([63] : List Nat) → h2[i]? = h[i]?) → Q (some (.inl v)) h2) : zx_M (d + 1) 149 [.inr (.inr (1, 63)), .inl w, .inl q] h Q := by
  have el_0 : (0 : Int32).toInt = 0 := by decide
  obtain ⟨x1, c63_1, m_furlongs1, m_many1, m_bagged1, m_legs1, m_most1, m_nap1, m_on1, m_biscuits1, m_races1, m_worn1, m_here1, m_minutes1, m_seed1, m_fault1, m_base1, m_at1, m_end1, m_number1, m_wrongAt1, m_bestMany1, m_bestHere1, m_bestWorn1, m_bestMinutes1, m_turn1, m_ever1, m_made1, m_ruleHere1, m_ruleMinutes1, m_ruleEver1, m_ran1, m_isKept1, rfl, q0_1, q1_1, q2_1, q3_1, q4_1, q5_1, q6_1, q7_1, q8_1⟩ := zi_g hI 63 (by decide)
  have fr0 : ∀ i, i ∉ ([63] : List Nat) → h[i]? = h[i]? := fun _ _ => rfl
  refine zx_M_of (Nat.le_of_ble_eq_true rfl) zm_149 (L := [some (.inr (.inr (1, 63))), some (.inl w), some (.inl q), none]) rfl ?_
  refine zx_W_ins (pc' := 1) dX8_asks_0 rfl (fun _ => rfl) rfl ?_
  refine zx_W_ins (pc' := 2) dX8_asks_1 rfl (fun _ => rfl) rfl ?_
  refine zw_iv (k := 147) (pc' := 5) dX8_asks_2 rfl rfl rfl rfl c63_1 rfl rfl (zc_147 hI (fun v2 h3 hI4 fr5 _ => ?_))
  show zx_W _ _ _ _ _ _ _ [.inl v2] _ _
  have fr6 : ∀ i, i ∉ ([63] : List Nat) → h3[i]? = h[i]? := fun i hi => Eq.trans (fr5 i (fun z => hi (by first | exact absurd z List.not_mem_nil | (simp only [List.mem_cons, List.not_mem_nil, or_false] at z ⊢; omega)))) (fr0 i hi)
  have c7 : h3[63]? = some (.inl (8, [.inl m_furlongs1, .inl m_many1, .inl m_bagged1, .inl m_legs1, .inl m_most1, .inl m_nap1, .inl m_on1, .inl m_biscuits1, .inl m_races1, .inl m_worn1, .inl m_here1, .inl m_minutes1, .inl m_seed1, .inl m_fault1, .inr (.inr (1, 64)), .inr (.inr (1, 65)), .inr (.inr (1, 66)), .inr (.inr (1, 67)), .inr (.inr (1, 68)), .inr (.inr (1, 69)), .inr (.inr (1, 70)), .inr (.inr (1, 71)), .inr (.inr (1, 72)), .inr (.inr (1, 73)), .inr (.inr (1, 74)), .inr (.inr (1, 75)), .inr (.inr (1, 76)), .inr (.inr (1, 77)), .inr (.inr (1, 78)), .inl m_base1, .inl m_at1, .inl m_end1, .inl m_number1, .inl m_wrongAt1, .inr (.inr (1, 79)), .inr (.inr (1, 80)), .inr (.inr (1, 81)), .inr (.inr (1, 82)), .inr (.inr (1, 83)), .inr (.inr (1, 84)), .inl m_bestMany1, .inl m_bestHere1, .inl m_bestWorn1, .inl m_bestMinutes1, .inl m_turn1, .inl m_ever1, .inl m_made1, .inl m_ruleHere1, .inl m_ruleMinutes1, .inl m_ruleEver1, .inr (.inr (1, 85)), .inl m_ran1, .inl m_isKept1])) := by rw [fr5 63 (by decide)]; exact c63_1
  refine zx_W_ins (pc' := 6) (L' := [some (.inr (.inr (1, 63))), some (.inl w), some (.inl q), some (.inl v2)]) dX8_asks_5 rfl (fun _ => rfl) rfl ?_
  refine zx_W_ins (pc' := 7) dX8_asks_6 rfl (fun _ => rfl) rfl ?_
  refine zx_W_ins (pc' := 8) dX8_asks_7 rfl (fun _ => rfl) rfl ?_
  refine zx_W_ins (pc' := 9) dX8_asks_8 rfl (fun _ => rfl) rfl ?_
  refine zw_iv (k := 148) (pc' := 12) dX8_asks_9 rfl rfl rfl rfl c7 rfl rfl (zc_148 hI4 (fun h9 hI10 fr11 _ => ?_))
  show zx_W _ _ _ _ _ _ _ [] _ _
  have fr12 : ∀ i, i ∉ ([63] : List Nat) → h9[i]? = h[i]? := fun i hi => Eq.trans (fr11 i (fun z => hi (by first | exact absurd z List.not_mem_nil | (simp only [List.mem_cons, List.not_mem_nil, or_false] at z ⊢; omega)))) (fr6 i hi)
  obtain ⟨x13, c63_13, m_furlongs13, m_many13, m_bagged13, m_legs13, m_most13, m_nap13, m_on13, m_biscuits13, m_races13, m_worn13, m_here13, m_minutes13, m_seed13, m_fault13, m_base13, m_at13, m_end13, m_number13, m_wrongAt13, m_bestMany13, m_bestHere13, m_bestWorn13, m_bestMinutes13, m_turn13, m_ever13, m_made13, m_ruleHere13, m_ruleMinutes13, m_ruleEver13, m_ran13, m_isKept13, rfl, q0_13, q1_13, q2_13, q3_13, q4_13, q5_13, q6_13, q7_13, q8_13⟩ := zi_g hI10 63 (by decide)
  refine zx_W_ins (pc' := 13) dX8_asks_12 rfl (fun _ => rfl) rfl ?_
  refine zw_if_ne (tgt := 29) (pc' := 16) dX8_asks_13 rfl rfl (fun g14 => ?_) (fun g14 => ?_)
  · have g14t : ¬ (w).toInt = (0 : Int32).toInt := fun z => g14 (Int32.toInt_inj.mp z)
    refine zx_W_ins (pc' := 30) dX8_asks_29 rfl (fun _ => rfl) rfl ?_
    refine zw_iret dX8_asks_30 rfl rfl ?_
    exact hq _ h9 hI10 fr12
  · have g14t : (w).toInt = (0 : Int32).toInt := congrArg Int32.toInt g14
    refine zx_W_ins (pc' := 17) dX8_asks_16 rfl (fun _ => rfl) rfl ?_
    refine zw_gf (pc' := 20) dX8_asks_17 rfl rfl c63_13 rfl ?_
    refine zx_W_ins (pc' := 21) dX8_asks_20 rfl (fun _ => rfl) rfl ?_
    refine zw_icmp_le (tgt := 29) (pc' := 24) dX8_asks_21 rfl rfl (fun g15 => ?_) (fun g15 => ?_)
    · refine zx_W_ins (pc' := 30) dX8_asks_29 rfl (fun _ => rfl) rfl ?_
      refine zw_iret dX8_asks_30 rfl rfl ?_
      exact hq _ h9 hI10 fr12
    · refine zx_W_ins (pc' := 25) dX8_asks_24 rfl (fun _ => rfl) rfl ?_
      refine zx_W_ins (pc' := 26) dX8_asks_25 rfl (fun _ => rfl) rfl ?_
      refine zw_pf (pc' := 29) dX8_asks_26 rfl rfl c63_13 rfl (fs' := [.inl m_furlongs13, .inl m_many13, .inl m_bagged13, .inl q, .inl m_most13, .inl m_nap13, .inl m_on13, .inl m_biscuits13, .inl m_races13, .inl m_worn13, .inl m_here13, .inl m_minutes13, .inl m_seed13, .inl m_fault13, .inr (.inr (1, 64)), .inr (.inr (1, 65)), .inr (.inr (1, 66)), .inr (.inr (1, 67)), .inr (.inr (1, 68)), .inr (.inr (1, 69)), .inr (.inr (1, 70)), .inr (.inr (1, 71)), .inr (.inr (1, 72)), .inr (.inr (1, 73)), .inr (.inr (1, 74)), .inr (.inr (1, 75)), .inr (.inr (1, 76)), .inr (.inr (1, 77)), .inr (.inr (1, 78)), .inl m_base13, .inl m_at13, .inl m_end13, .inl m_number13, .inl m_wrongAt13, .inr (.inr (1, 79)), .inr (.inr (1, 80)), .inr (.inr (1, 81)), .inr (.inr (1, 82)), .inr (.inr (1, 83)), .inr (.inr (1, 84)), .inl m_bestMany13, .inl m_bestHere13, .inl m_bestWorn13, .inl m_bestMinutes13, .inl m_turn13, .inl m_ever13, .inl m_made13, .inl m_ruleHere13, .inl m_ruleMinutes13, .inl m_ruleEver13, .inr (.inr (1, 85)), .inl m_ran13, .inl m_isKept13]) rfl ?_
      obtain ⟨h16, e17⟩ : ∃ z, z = h9.set 63 (.inl (8, [.inl m_furlongs13, .inl m_many13, .inl m_bagged13, .inl q, .inl m_most13, .inl m_nap13, .inl m_on13, .inl m_biscuits13, .inl m_races13, .inl m_worn13, .inl m_here13, .inl m_minutes13, .inl m_seed13, .inl m_fault13, .inr (.inr (1, 64)), .inr (.inr (1, 65)), .inr (.inr (1, 66)), .inr (.inr (1, 67)), .inr (.inr (1, 68)), .inr (.inr (1, 69)), .inr (.inr (1, 70)), .inr (.inr (1, 71)), .inr (.inr (1, 72)), .inr (.inr (1, 73)), .inr (.inr (1, 74)), .inr (.inr (1, 75)), .inr (.inr (1, 76)), .inr (.inr (1, 77)), .inr (.inr (1, 78)), .inl m_base13, .inl m_at13, .inl m_end13, .inl m_number13, .inl m_wrongAt13, .inr (.inr (1, 79)), .inr (.inr (1, 80)), .inr (.inr (1, 81)), .inr (.inr (1, 82)), .inr (.inr (1, 83)), .inr (.inr (1, 84)), .inl m_bestMany13, .inl m_bestHere13, .inl m_bestWorn13, .inl m_bestMinutes13, .inl m_turn13, .inl m_ever13, .inl m_made13, .inl m_ruleHere13, .inl m_ruleMinutes13, .inl m_ruleEver13, .inr (.inr (1, 85)), .inl m_ran13, .inl m_isKept13])) := ⟨_, rfl⟩
      rw [← e17]
      have c18 : h16[63]? = some (.inl (8, [.inl m_furlongs13, .inl m_many13, .inl m_bagged13, .inl q, .inl m_most13, .inl m_nap13, .inl m_on13, .inl m_biscuits13, .inl m_races13, .inl m_worn13, .inl m_here13, .inl m_minutes13, .inl m_seed13, .inl m_fault13, .inr (.inr (1, 64)), .inr (.inr (1, 65)), .inr (.inr (1, 66)), .inr (.inr (1, 67)), .inr (.inr (1, 68)), .inr (.inr (1, 69)), .inr (.inr (1, 70)), .inr (.inr (1, 71)), .inr (.inr (1, 72)), .inr (.inr (1, 73)), .inr (.inr (1, 74)), .inr (.inr (1, 75)), .inr (.inr (1, 76)), .inr (.inr (1, 77)), .inr (.inr (1, 78)), .inl m_base13, .inl m_at13, .inl m_end13, .inl m_number13, .inl m_wrongAt13, .inr (.inr (1, 79)), .inr (.inr (1, 80)), .inr (.inr (1, 81)), .inr (.inr (1, 82)), .inr (.inr (1, 83)), .inr (.inr (1, 84)), .inl m_bestMany13, .inl m_bestHere13, .inl m_bestWorn13, .inl m_bestMinutes13, .inl m_turn13, .inl m_ever13, .inl m_made13, .inl m_ruleHere13, .inl m_ruleMinutes13, .inl m_ruleEver13, .inr (.inr (1, 85)), .inl m_ran13, .inl m_isKept13])) := by rw [e17, List.getElem?_set_self (List.getElem?_eq_some_iff.mp c63_13).1]
      have hI19 : zx_I h16 := by rw [e17]; exact zi_set hI10 (show zc_ref _ from ⟨_, _, _, _, _, _, _, _, _, _, _, _, _, _, _, _, _, _, _, _, _, _, _, _, _, _, _, _, _, _, _, rfl, by omega, by omega, by omega, by omega, by omega, by omega, by omega, by omega, by assumption⟩) (by decide) (by decide)
      have fr20 : ∀ i, i ∉ ([63] : List Nat) → h16[i]? = h[i]? := fun i hi => Eq.trans (b := h9[i]?) (by rw [e17, List.getElem?_set_ne (fun z => hi (by rw [← z]; decide))]) (fr12 i hi)
      refine zx_W_ins (pc' := 30) dX8_asks_29 rfl (fun _ => rfl) rfl ?_
      refine zw_iret dX8_asks_30 rfl rfl ?_
      exact hq _ h16 hI19 fr20
def zt_146 : zx_MT := (8, yX8_isAsked, cX8_isAsked, 3, (some FieldType.boolean), 2, 0)
theorem zm_146 : zx_m 146 = zt_146 := rfl
theorem dX8_isAsked_0 : decode cX8_isAsked 0 = .ok (.iload_n 2, 1) := by decide +kernel
theorem dX8_isAsked_1 : decode cX8_isAsked 1 = .ok (.iload_n 1, 1) := by decide +kernel
theorem dX8_isAsked_2 : decode cX8_isAsked 2 = .ok (.iconst 3, 1) := by decide +kernel
theorem dX8_isAsked_3 : decode cX8_isAsked 3 = .ok (.if_icmp .ge 7, 3) := by decide +kernel
theorem dX8_isAsked_6 : decode cX8_isAsked 6 = .ok (.iconst 1, 1) := by decide +kernel
theorem dX8_isAsked_7 : decode cX8_isAsked 7 = .ok (.goto 4, 3) := by decide +kernel
theorem dX8_isAsked_10 : decode cX8_isAsked 10 = .ok (.iconst 0, 1) := by decide +kernel
theorem dX8_isAsked_11 : decode cX8_isAsked 11 = .ok (.if_icmp .lt 23, 3) := by decide +kernel
theorem dX8_isAsked_14 : decode cX8_isAsked 14 = .ok (.iload_n 2, 1) := by decide +kernel
theorem dX8_isAsked_15 : decode cX8_isAsked 15 = .ok (.iload_n 1, 1) := by decide +kernel
theorem dX8_isAsked_16 : decode cX8_isAsked 16 = .ok (.iconst 2, 1) := by decide +kernel
theorem dX8_isAsked_17 : decode cX8_isAsked 17 = .ok (.if_icmp .ne 8, 3) := by decide +kernel
theorem dX8_isAsked_20 : decode cX8_isAsked 20 = .ok (.bipush 99, 2) := by decide +kernel
theorem dX8_isAsked_22 : decode cX8_isAsked 22 = .ok (.goto 5, 3) := by decide +kernel
theorem dX8_isAsked_25 : decode cX8_isAsked 25 = .ok (.bipush 9, 2) := by decide +kernel
theorem dX8_isAsked_27 : decode cX8_isAsked 27 = .ok (.if_icmp .gt 7, 3) := by decide +kernel
theorem dX8_isAsked_30 : decode cX8_isAsked 30 = .ok (.iconst 1, 1) := by decide +kernel
theorem dX8_isAsked_31 : decode cX8_isAsked 31 = .ok (.goto 4, 3) := by decide +kernel
theorem dX8_isAsked_34 : decode cX8_isAsked 34 = .ok (.iconst 0, 1) := by decide +kernel
theorem dX8_isAsked_35 : decode cX8_isAsked 35 = .ok (.ireturn, 1) := by decide +kernel
theorem zc_146 {d : Nat} {h : List zx_C} {w : Int32} {q : Int32} {Q : Option zx_V → List zx_C → Prop} (hI : zx_I h)    (hq : ∀ (v : Int32) (h2 : List zx_C), zx_I h2 → (∀ i, i ∉ ([] : List Nat) → h2[i]? = h[i]?) → (v = 0 ∨ v = 1) → Q (some (.inl v)) h2) : zx_M (d) 146 [.inr (.inr (1, 63)), .inl w, .inl q] h Q := by
  have el_0 : (0 : Int32).toInt = 0 := by decide
  have el_1 : (1 : Int32).toInt = 1 := by decide
  have el_2 : (2 : Int32).toInt = 2 := by decide
  have el_3 : (3 : Int32).toInt = 3 := by decide
  have el_9 : (9 : Int32).toInt = 9 := by decide
  have el_99 : (99 : Int32).toInt = 99 := by decide
  obtain ⟨x1, c63_1, m_furlongs1, m_many1, m_bagged1, m_legs1, m_most1, m_nap1, m_on1, m_biscuits1, m_races1, m_worn1, m_here1, m_minutes1, m_seed1, m_fault1, m_base1, m_at1, m_end1, m_number1, m_wrongAt1, m_bestMany1, m_bestHere1, m_bestWorn1, m_bestMinutes1, m_turn1, m_ever1, m_made1, m_ruleHere1, m_ruleMinutes1, m_ruleEver1, m_ran1, m_isKept1, rfl, q0_1, q1_1, q2_1, q3_1, q4_1, q5_1, q6_1, q7_1, q8_1⟩ := zi_g hI 63 (by decide)
  have fr0 : ∀ i, i ∉ ([] : List Nat) → h[i]? = h[i]? := fun _ _ => rfl
  refine zx_M_of (Nat.le_of_ble_eq_true rfl) zm_146 (L := [some (.inr (.inr (1, 63))), some (.inl w), some (.inl q)]) rfl ?_
  refine zx_W_ins (pc' := 1) dX8_isAsked_0 rfl (fun _ => rfl) rfl ?_
  refine zx_W_ins (pc' := 2) dX8_isAsked_1 rfl (fun _ => rfl) rfl ?_
  refine zw_ic (v := 3) (pc' := 3) dX8_isAsked_2 rfl rfl ?_
  refine zw_icmp_ge (tgt := 10) (pc' := 6) dX8_isAsked_3 rfl rfl (fun g2 => ?_) (fun g2 => ?_)
  · refine zw_ic (v := 0) (pc' := 11) dX8_isAsked_10 rfl rfl ?_
    refine zw_icmp_lt (tgt := 34) (pc' := 14) dX8_isAsked_11 rfl rfl (fun g3 => ?_) (fun g3 => ?_)
    · refine zw_ic (v := 0) (pc' := 35) dX8_isAsked_34 rfl rfl ?_
      refine zw_iret dX8_isAsked_35 rfl (by decide) ?_
      exact hq _ h hI fr0 (Or.inl rfl)
    · refine zx_W_ins (pc' := 15) dX8_isAsked_14 rfl (fun _ => rfl) rfl ?_
      refine zx_W_ins (pc' := 16) dX8_isAsked_15 rfl (fun _ => rfl) rfl ?_
      refine zw_ic (v := 2) (pc' := 17) dX8_isAsked_16 rfl rfl ?_
      refine zw_icmp_ne (tgt := 25) (pc' := 20) dX8_isAsked_17 rfl rfl (fun g4 => ?_) (fun g4 => ?_)
      · have g4t : ¬ (w).toInt = (2 : Int32).toInt := fun z => g4 (Int32.toInt_inj.mp z)
        refine zw_bi (v := 9) (pc' := 27) dX8_isAsked_25 rfl rfl ?_
        refine zw_icmp_gt (tgt := 34) (pc' := 30) dX8_isAsked_27 rfl rfl (fun g5 => ?_) (fun g5 => ?_)
        · refine zw_ic (v := 0) (pc' := 35) dX8_isAsked_34 rfl rfl ?_
          refine zw_iret dX8_isAsked_35 rfl (by decide) ?_
          exact hq _ h hI fr0 (Or.inl rfl)
        · refine zw_ic (v := 1) (pc' := 31) dX8_isAsked_30 rfl rfl ?_
          refine zw_goto (tgt := 35) dX8_isAsked_31 rfl ?_
          refine zw_iret dX8_isAsked_35 rfl (by decide) ?_
          exact hq _ h hI fr0 (Or.inr rfl)
      · have g4t : (w).toInt = (2 : Int32).toInt := congrArg Int32.toInt g4
        refine zw_bi (v := 99) (pc' := 22) dX8_isAsked_20 rfl rfl ?_
        refine zw_goto (tgt := 27) dX8_isAsked_22 rfl ?_
        refine zw_icmp_gt (tgt := 34) (pc' := 30) dX8_isAsked_27 rfl rfl (fun g6 => ?_) (fun g6 => ?_)
        · refine zw_ic (v := 0) (pc' := 35) dX8_isAsked_34 rfl rfl ?_
          refine zw_iret dX8_isAsked_35 rfl (by decide) ?_
          exact hq _ h hI fr0 (Or.inl rfl)
        · refine zw_ic (v := 1) (pc' := 31) dX8_isAsked_30 rfl rfl ?_
          refine zw_goto (tgt := 35) dX8_isAsked_31 rfl ?_
          refine zw_iret dX8_isAsked_35 rfl (by decide) ?_
          exact hq _ h hI fr0 (Or.inr rfl)
  · refine zw_ic (v := 1) (pc' := 7) dX8_isAsked_6 rfl rfl ?_
    refine zw_goto (tgt := 11) dX8_isAsked_7 rfl ?_
    refine zw_icmp_lt (tgt := 34) (pc' := 14) dX8_isAsked_11 rfl rfl (fun g7 => ?_) (fun g7 => ?_)
    · refine zw_ic (v := 0) (pc' := 35) dX8_isAsked_34 rfl rfl ?_
      refine zw_iret dX8_isAsked_35 rfl (by decide) ?_
      exact hq _ h hI fr0 (Or.inl rfl)
    · refine zx_W_ins (pc' := 15) dX8_isAsked_14 rfl (fun _ => rfl) rfl ?_
      refine zx_W_ins (pc' := 16) dX8_isAsked_15 rfl (fun _ => rfl) rfl ?_
      refine zw_ic (v := 2) (pc' := 17) dX8_isAsked_16 rfl rfl ?_
      refine zw_icmp_ne (tgt := 25) (pc' := 20) dX8_isAsked_17 rfl rfl (fun g8 => ?_) (fun g8 => ?_)
      · have g8t : ¬ (w).toInt = (2 : Int32).toInt := fun z => g8 (Int32.toInt_inj.mp z)
        refine zw_bi (v := 9) (pc' := 27) dX8_isAsked_25 rfl rfl ?_
        refine zw_icmp_gt (tgt := 34) (pc' := 30) dX8_isAsked_27 rfl rfl (fun g9 => ?_) (fun g9 => ?_)
        · refine zw_ic (v := 0) (pc' := 35) dX8_isAsked_34 rfl rfl ?_
          refine zw_iret dX8_isAsked_35 rfl (by decide) ?_
          exact hq _ h hI fr0 (Or.inl rfl)
        · refine zw_ic (v := 1) (pc' := 31) dX8_isAsked_30 rfl rfl ?_
          refine zw_goto (tgt := 35) dX8_isAsked_31 rfl ?_
          refine zw_iret dX8_isAsked_35 rfl (by decide) ?_
          exact hq _ h hI fr0 (Or.inr rfl)
      · have g8t : (w).toInt = (2 : Int32).toInt := congrArg Int32.toInt g8
        refine zw_bi (v := 99) (pc' := 22) dX8_isAsked_20 rfl rfl ?_
        refine zw_goto (tgt := 27) dX8_isAsked_22 rfl ?_
        refine zw_icmp_gt (tgt := 34) (pc' := 30) dX8_isAsked_27 rfl rfl (fun g10 => ?_) (fun g10 => ?_)
        · refine zw_ic (v := 0) (pc' := 35) dX8_isAsked_34 rfl rfl ?_
          refine zw_iret dX8_isAsked_35 rfl (by decide) ?_
          exact hq _ h hI fr0 (Or.inl rfl)
        · refine zw_ic (v := 1) (pc' := 31) dX8_isAsked_30 rfl rfl ?_
          refine zw_goto (tgt := 35) dX8_isAsked_31 rfl ?_
          refine zw_iret dX8_isAsked_35 rfl (by decide) ?_
          exact hq _ h hI fr0 (Or.inr rfl)
def zt_150 : zx_MT := (8, yX8_ask, cX8_ask, 3, (some FieldType.int), 2, 0)
theorem zm_150 : zx_m 150 = zt_150 := rfl
theorem dX8_ask_0 : decode cX8_ask 0 = .ok (.iload_n 1, 1) := by decide +kernel
theorem dX8_ask_1 : decode cX8_ask 1 = .ok (.ifCond .lt 26, 3) := by decide +kernel
theorem dX8_ask_4 : decode cX8_ask 4 = .ok (.iload_n 1, 1) := by decide +kernel
theorem dX8_ask_5 : decode cX8_ask 5 = .ok (.iconst 4, 1) := by decide +kernel
theorem dX8_ask_6 : decode cX8_ask 6 = .ok (.if_icmp .gt 21, 3) := by decide +kernel
theorem dX8_ask_9 : decode cX8_ask 9 = .ok (.aload_n 0, 1) := by decide +kernel
theorem dX8_ask_10 : decode cX8_ask 10 = .ok (.iload_n 1, 1) := by decide +kernel
theorem dX8_ask_11 : decode cX8_ask 11 = .ok (.iload_n 2, 1) := by decide +kernel
theorem dX8_ask_12 : decode cX8_ask 12 = .ok (.invokevirtual 152, 3) := by decide +kernel
theorem dX8_ask_15 : decode cX8_ask 15 = .ok (.ifCond .eq 12, 3) := by decide +kernel
theorem dX8_ask_18 : decode cX8_ask 18 = .ok (.aload_n 0, 1) := by decide +kernel
theorem dX8_ask_19 : decode cX8_ask 19 = .ok (.iload_n 1, 1) := by decide +kernel
theorem dX8_ask_20 : decode cX8_ask 20 = .ok (.iload_n 2, 1) := by decide +kernel
theorem dX8_ask_21 : decode cX8_ask 21 = .ok (.invokevirtual 156, 3) := by decide +kernel
theorem dX8_ask_24 : decode cX8_ask 24 = .ok (.goto 9, 3) := by decide +kernel
theorem dX8_ask_27 : decode cX8_ask 27 = .ok (.aload_n 0, 1) := by decide +kernel
theorem dX8_ask_28 : decode cX8_ask 28 = .ok (.bipush (-6), 2) := by decide +kernel
theorem dX8_ask_30 : decode cX8_ask 30 = .ok (.invokevirtual 115, 3) := by decide +kernel
theorem dX8_ask_33 : decode cX8_ask 33 = .ok (.ireturn, 1) := by decide +kernel
theorem zc_150 {d : Nat} {h : List zx_C} {w : Int32} {q : Int32} {Q : Option zx_V → List zx_C → Prop} (hI : zx_I h)    (hq : ∀ (v : Int32) (h2 : List zx_C), zx_I h2 → (∀ i, i ∉ ([63, 64] : List Nat) → h2[i]? = h[i]?) → Q (some (.inl v)) h2) : zx_M (d + 2) 150 [.inr (.inr (1, 63)), .inl w, .inl q] h Q := by
  have el_m6 : ((-6) : Int32).toInt = -6 := by decide
  have el_0 : (0 : Int32).toInt = 0 := by decide
  have el_4 : (4 : Int32).toInt = 4 := by decide
  obtain ⟨x1, c63_1, m_furlongs1, m_many1, m_bagged1, m_legs1, m_most1, m_nap1, m_on1, m_biscuits1, m_races1, m_worn1, m_here1, m_minutes1, m_seed1, m_fault1, m_base1, m_at1, m_end1, m_number1, m_wrongAt1, m_bestMany1, m_bestHere1, m_bestWorn1, m_bestMinutes1, m_turn1, m_ever1, m_made1, m_ruleHere1, m_ruleMinutes1, m_ruleEver1, m_ran1, m_isKept1, rfl, q0_1, q1_1, q2_1, q3_1, q4_1, q5_1, q6_1, q7_1, q8_1⟩ := zi_g hI 63 (by decide)
  have fr0 : ∀ i, i ∉ ([63, 64] : List Nat) → h[i]? = h[i]? := fun _ _ => rfl
  refine zx_M_of (Nat.le_of_ble_eq_true rfl) zm_150 (L := [some (.inr (.inr (1, 63))), some (.inl w), some (.inl q)]) rfl ?_
  refine zx_W_ins (pc' := 1) dX8_ask_0 rfl (fun _ => rfl) rfl ?_
  refine zw_if_lt (tgt := 27) (pc' := 4) dX8_ask_1 rfl rfl (fun g2 => ?_) (fun g2 => ?_)
  · refine zx_W_ins (pc' := 28) dX8_ask_27 rfl (fun _ => rfl) rfl ?_
    refine zw_bi (v := (-6)) (pc' := 30) dX8_ask_28 rfl rfl ?_
    refine zw_iv (k := 125) (pc' := 33) dX8_ask_30 rfl rfl rfl rfl c63_1 rfl rfl (zc_125 hI (by omega) (fun v3 h4 hI5 fr6 hvv3 _ => ?_))
    show zx_W _ _ _ _ _ _ _ [.inl v3] _ _
    have fr7 : ∀ i, i ∉ ([63, 64] : List Nat) → h4[i]? = h[i]? := fun i hi => Eq.trans (fr6 i (fun z => hi (by first | exact absurd z List.not_mem_nil | (simp only [List.mem_cons, List.not_mem_nil, or_false] at z ⊢; omega)))) (fr0 i hi)
    have c8 : h4[63]? = some (.inl (8, [.inl m_furlongs1, .inl m_many1, .inl m_bagged1, .inl m_legs1, .inl m_most1, .inl m_nap1, .inl m_on1, .inl m_biscuits1, .inl m_races1, .inl m_worn1, .inl m_here1, .inl m_minutes1, .inl m_seed1, .inl m_fault1, .inr (.inr (1, 64)), .inr (.inr (1, 65)), .inr (.inr (1, 66)), .inr (.inr (1, 67)), .inr (.inr (1, 68)), .inr (.inr (1, 69)), .inr (.inr (1, 70)), .inr (.inr (1, 71)), .inr (.inr (1, 72)), .inr (.inr (1, 73)), .inr (.inr (1, 74)), .inr (.inr (1, 75)), .inr (.inr (1, 76)), .inr (.inr (1, 77)), .inr (.inr (1, 78)), .inl m_base1, .inl m_at1, .inl m_end1, .inl m_number1, .inl m_wrongAt1, .inr (.inr (1, 79)), .inr (.inr (1, 80)), .inr (.inr (1, 81)), .inr (.inr (1, 82)), .inr (.inr (1, 83)), .inr (.inr (1, 84)), .inl m_bestMany1, .inl m_bestHere1, .inl m_bestWorn1, .inl m_bestMinutes1, .inl m_turn1, .inl m_ever1, .inl m_made1, .inl m_ruleHere1, .inl m_ruleMinutes1, .inl m_ruleEver1, .inr (.inr (1, 85)), .inl m_ran1, .inl m_isKept1])) := by rw [fr6 63 (by decide)]; exact c63_1
    obtain ⟨x9, c64_9, f64_9, rfl, l64_9⟩ := zi_g hI5 64 (by decide)
    refine zw_iret dX8_ask_33 rfl rfl ?_
    exact hq _ h4 hI5 fr7
  · refine zx_W_ins (pc' := 5) dX8_ask_4 rfl (fun _ => rfl) rfl ?_
    refine zw_ic (v := 4) (pc' := 6) dX8_ask_5 rfl rfl ?_
    refine zw_icmp_gt (tgt := 27) (pc' := 9) dX8_ask_6 rfl rfl (fun g10 => ?_) (fun g10 => ?_)
    · refine zx_W_ins (pc' := 28) dX8_ask_27 rfl (fun _ => rfl) rfl ?_
      refine zw_bi (v := (-6)) (pc' := 30) dX8_ask_28 rfl rfl ?_
      refine zw_iv (k := 125) (pc' := 33) dX8_ask_30 rfl rfl rfl rfl c63_1 rfl rfl (zc_125 hI (by omega) (fun v11 h12 hI13 fr14 hvv11 _ => ?_))
      show zx_W _ _ _ _ _ _ _ [.inl v11] _ _
      have fr15 : ∀ i, i ∉ ([63, 64] : List Nat) → h12[i]? = h[i]? := fun i hi => Eq.trans (fr14 i (fun z => hi (by first | exact absurd z List.not_mem_nil | (simp only [List.mem_cons, List.not_mem_nil, or_false] at z ⊢; omega)))) (fr0 i hi)
      have c16 : h12[63]? = some (.inl (8, [.inl m_furlongs1, .inl m_many1, .inl m_bagged1, .inl m_legs1, .inl m_most1, .inl m_nap1, .inl m_on1, .inl m_biscuits1, .inl m_races1, .inl m_worn1, .inl m_here1, .inl m_minutes1, .inl m_seed1, .inl m_fault1, .inr (.inr (1, 64)), .inr (.inr (1, 65)), .inr (.inr (1, 66)), .inr (.inr (1, 67)), .inr (.inr (1, 68)), .inr (.inr (1, 69)), .inr (.inr (1, 70)), .inr (.inr (1, 71)), .inr (.inr (1, 72)), .inr (.inr (1, 73)), .inr (.inr (1, 74)), .inr (.inr (1, 75)), .inr (.inr (1, 76)), .inr (.inr (1, 77)), .inr (.inr (1, 78)), .inl m_base1, .inl m_at1, .inl m_end1, .inl m_number1, .inl m_wrongAt1, .inr (.inr (1, 79)), .inr (.inr (1, 80)), .inr (.inr (1, 81)), .inr (.inr (1, 82)), .inr (.inr (1, 83)), .inr (.inr (1, 84)), .inl m_bestMany1, .inl m_bestHere1, .inl m_bestWorn1, .inl m_bestMinutes1, .inl m_turn1, .inl m_ever1, .inl m_made1, .inl m_ruleHere1, .inl m_ruleMinutes1, .inl m_ruleEver1, .inr (.inr (1, 85)), .inl m_ran1, .inl m_isKept1])) := by rw [fr14 63 (by decide)]; exact c63_1
      obtain ⟨x17, c64_17, f64_17, rfl, l64_17⟩ := zi_g hI13 64 (by decide)
      refine zw_iret dX8_ask_33 rfl rfl ?_
      exact hq _ h12 hI13 fr15
    · refine zx_W_ins (pc' := 10) dX8_ask_9 rfl (fun _ => rfl) rfl ?_
      refine zx_W_ins (pc' := 11) dX8_ask_10 rfl (fun _ => rfl) rfl ?_
      refine zx_W_ins (pc' := 12) dX8_ask_11 rfl (fun _ => rfl) rfl ?_
      refine zw_iv (k := 146) (pc' := 15) dX8_ask_12 rfl rfl rfl rfl c63_1 rfl rfl (zc_146 hI (fun v18 h19 hI20 fr21 hvv18 _ => ?_))
      show zx_W _ _ _ _ _ _ _ [.inl v18] _ _
      have fr22 : ∀ i, i ∉ ([63, 64] : List Nat) → h19[i]? = h[i]? := fun i hi => Eq.trans (fr21 i (fun z => hi (by first | exact absurd z List.not_mem_nil | (simp only [List.mem_cons, List.not_mem_nil, or_false] at z ⊢; omega)))) (fr0 i hi)
      have c23 : h19[63]? = some (.inl (8, [.inl m_furlongs1, .inl m_many1, .inl m_bagged1, .inl m_legs1, .inl m_most1, .inl m_nap1, .inl m_on1, .inl m_biscuits1, .inl m_races1, .inl m_worn1, .inl m_here1, .inl m_minutes1, .inl m_seed1, .inl m_fault1, .inr (.inr (1, 64)), .inr (.inr (1, 65)), .inr (.inr (1, 66)), .inr (.inr (1, 67)), .inr (.inr (1, 68)), .inr (.inr (1, 69)), .inr (.inr (1, 70)), .inr (.inr (1, 71)), .inr (.inr (1, 72)), .inr (.inr (1, 73)), .inr (.inr (1, 74)), .inr (.inr (1, 75)), .inr (.inr (1, 76)), .inr (.inr (1, 77)), .inr (.inr (1, 78)), .inl m_base1, .inl m_at1, .inl m_end1, .inl m_number1, .inl m_wrongAt1, .inr (.inr (1, 79)), .inr (.inr (1, 80)), .inr (.inr (1, 81)), .inr (.inr (1, 82)), .inr (.inr (1, 83)), .inr (.inr (1, 84)), .inl m_bestMany1, .inl m_bestHere1, .inl m_bestWorn1, .inl m_bestMinutes1, .inl m_turn1, .inl m_ever1, .inl m_made1, .inl m_ruleHere1, .inl m_ruleMinutes1, .inl m_ruleEver1, .inr (.inr (1, 85)), .inl m_ran1, .inl m_isKept1])) := by rw [fr21 63 (by decide)]; exact c63_1
      refine zw_if_eq (tgt := 27) (pc' := 18) dX8_ask_15 rfl rfl (fun g24 => ?_) (fun g24 => ?_)
      · have g24t : (v18).toInt = (0 : Int32).toInt := congrArg Int32.toInt g24
        refine zx_W_ins (pc' := 28) dX8_ask_27 rfl (fun _ => rfl) rfl ?_
        refine zw_bi (v := (-6)) (pc' := 30) dX8_ask_28 rfl rfl ?_
        refine zw_iv (k := 125) (pc' := 33) dX8_ask_30 rfl rfl rfl rfl c23 rfl rfl (zc_125 hI20 (by omega) (fun v25 h26 hI27 fr28 hvv25 _ => ?_))
        show zx_W _ _ _ _ _ _ _ [.inl v25] _ _
        have fr29 : ∀ i, i ∉ ([63, 64] : List Nat) → h26[i]? = h[i]? := fun i hi => Eq.trans (fr28 i (fun z => hi (by first | exact absurd z List.not_mem_nil | (simp only [List.mem_cons, List.not_mem_nil, or_false] at z ⊢; omega)))) (fr22 i hi)
        have c30 : h26[63]? = some (.inl (8, [.inl m_furlongs1, .inl m_many1, .inl m_bagged1, .inl m_legs1, .inl m_most1, .inl m_nap1, .inl m_on1, .inl m_biscuits1, .inl m_races1, .inl m_worn1, .inl m_here1, .inl m_minutes1, .inl m_seed1, .inl m_fault1, .inr (.inr (1, 64)), .inr (.inr (1, 65)), .inr (.inr (1, 66)), .inr (.inr (1, 67)), .inr (.inr (1, 68)), .inr (.inr (1, 69)), .inr (.inr (1, 70)), .inr (.inr (1, 71)), .inr (.inr (1, 72)), .inr (.inr (1, 73)), .inr (.inr (1, 74)), .inr (.inr (1, 75)), .inr (.inr (1, 76)), .inr (.inr (1, 77)), .inr (.inr (1, 78)), .inl m_base1, .inl m_at1, .inl m_end1, .inl m_number1, .inl m_wrongAt1, .inr (.inr (1, 79)), .inr (.inr (1, 80)), .inr (.inr (1, 81)), .inr (.inr (1, 82)), .inr (.inr (1, 83)), .inr (.inr (1, 84)), .inl m_bestMany1, .inl m_bestHere1, .inl m_bestWorn1, .inl m_bestMinutes1, .inl m_turn1, .inl m_ever1, .inl m_made1, .inl m_ruleHere1, .inl m_ruleMinutes1, .inl m_ruleEver1, .inr (.inr (1, 85)), .inl m_ran1, .inl m_isKept1])) := by rw [fr28 63 (by decide)]; exact c23
        obtain ⟨x31, c64_31, f64_31, rfl, l64_31⟩ := zi_g hI27 64 (by decide)
        refine zw_iret dX8_ask_33 rfl rfl ?_
        exact hq _ h26 hI27 fr29
      · have g24t : ¬ (v18).toInt = (0 : Int32).toInt := fun z => g24 (Int32.toInt_inj.mp z)
        refine zx_W_ins (pc' := 19) dX8_ask_18 rfl (fun _ => rfl) rfl ?_
        refine zx_W_ins (pc' := 20) dX8_ask_19 rfl (fun _ => rfl) rfl ?_
        refine zx_W_ins (pc' := 21) dX8_ask_20 rfl (fun _ => rfl) rfl ?_
        refine zw_iv (k := 149) (pc' := 24) dX8_ask_21 rfl rfl rfl rfl c23 rfl rfl (zc_149 hI20 (fun v32 h33 hI34 fr35 _ => ?_))
        show zx_W _ _ _ _ _ _ _ [.inl v32] _ _
        have fr36 : ∀ i, i ∉ ([63, 64] : List Nat) → h33[i]? = h[i]? := fun i hi => Eq.trans (fr35 i (fun z => hi (by first | exact absurd z List.not_mem_nil | (simp only [List.mem_cons, List.not_mem_nil, or_false] at z ⊢; omega)))) (fr22 i hi)
        obtain ⟨x37, c63_37, m_furlongs37, m_many37, m_bagged37, m_legs37, m_most37, m_nap37, m_on37, m_biscuits37, m_races37, m_worn37, m_here37, m_minutes37, m_seed37, m_fault37, m_base37, m_at37, m_end37, m_number37, m_wrongAt37, m_bestMany37, m_bestHere37, m_bestWorn37, m_bestMinutes37, m_turn37, m_ever37, m_made37, m_ruleHere37, m_ruleMinutes37, m_ruleEver37, m_ran37, m_isKept37, rfl, q0_37, q1_37, q2_37, q3_37, q4_37, q5_37, q6_37, q7_37, q8_37⟩ := zi_g hI34 63 (by decide)
        refine zw_goto (tgt := 33) dX8_ask_24 rfl ?_
        refine zw_iret dX8_ask_33 rfl rfl ?_
        exact hq _ h33 hI34 fr36
def zt_140 : zx_MT := (8, yX8_addsFurlong, cX8_addsFurlong, 3, (some FieldType.int), 2, 0)
theorem zm_140 : zx_m 140 = zt_140 := rfl
theorem dX8_addsFurlong_0 : decode cX8_addsFurlong 0 = .ok (.aload_n 0, 1) := by decide +kernel
theorem dX8_addsFurlong_1 : decode cX8_addsFurlong 1 = .ok (.getfield 41, 3) := by decide +kernel
theorem dX8_addsFurlong_4 : decode cX8_addsFurlong 4 = .ok (.aload_n 0, 1) := by decide +kernel
theorem dX8_addsFurlong_5 : decode cX8_addsFurlong 5 = .ok (.getfield 108, 3) := by decide +kernel
theorem dX8_addsFurlong_8 : decode cX8_addsFurlong 8 = .ok (.iload_n 1, 1) := by decide +kernel
theorem dX8_addsFurlong_9 : decode cX8_addsFurlong 9 = .ok (.iastore, 1) := by decide +kernel
theorem dX8_addsFurlong_10 : decode cX8_addsFurlong 10 = .ok (.aload_n 0, 1) := by decide +kernel
theorem dX8_addsFurlong_11 : decode cX8_addsFurlong 11 = .ok (.getfield 44, 3) := by decide +kernel
theorem dX8_addsFurlong_14 : decode cX8_addsFurlong 14 = .ok (.aload_n 0, 1) := by decide +kernel
theorem dX8_addsFurlong_15 : decode cX8_addsFurlong 15 = .ok (.getfield 108, 3) := by decide +kernel
theorem dX8_addsFurlong_18 : decode cX8_addsFurlong 18 = .ok (.iload_n 2, 1) := by decide +kernel
theorem dX8_addsFurlong_19 : decode cX8_addsFurlong 19 = .ok (.iastore, 1) := by decide +kernel
theorem dX8_addsFurlong_20 : decode cX8_addsFurlong 20 = .ok (.aload_n 0, 1) := by decide +kernel
theorem dX8_addsFurlong_21 : decode cX8_addsFurlong 21 = .ok (.dup, 1) := by decide +kernel
theorem dX8_addsFurlong_22 : decode cX8_addsFurlong 22 = .ok (.getfield 108, 3) := by decide +kernel
theorem dX8_addsFurlong_25 : decode cX8_addsFurlong 25 = .ok (.dup_x1, 1) := by decide +kernel
theorem dX8_addsFurlong_26 : decode cX8_addsFurlong 26 = .ok (.iconst 1, 1) := by decide +kernel
theorem dX8_addsFurlong_27 : decode cX8_addsFurlong 27 = .ok (.iadd, 1) := by decide +kernel
theorem dX8_addsFurlong_28 : decode cX8_addsFurlong 28 = .ok (.putfield 108, 3) := by decide +kernel
theorem dX8_addsFurlong_31 : decode cX8_addsFurlong 31 = .ok (.ireturn, 1) := by decide +kernel
theorem zc_140 {d : Nat} {h : List zx_C} {w : Int32} {q : Int32} {Q : Option zx_V → List zx_C → Prop} (hI : zx_I h) {m_furlongs : Int32} {m_many : Int32} {m_bagged : Int32} {m_legs : Int32} {m_most : Int32} {m_nap : Int32} {m_on : Int32} {m_biscuits : Int32} {m_races : Int32} {m_worn : Int32} {m_here : Int32} {m_minutes : Int32} {m_seed : Int32} {m_fault : Int32} {m_base : Int32} {m_at : Int32} {m_end : Int32} {m_number : Int32} {m_wrongAt : Int32} {m_bestMany : Int32} {m_bestHere : Int32} {m_bestWorn : Int32} {m_bestMinutes : Int32} {m_turn : Int32} {m_ever : Int32} {m_made : Int32} {m_ruleHere : Int32} {m_ruleMinutes : Int32} {m_ruleEver : Int32} {m_ran : Int32} {m_isKept : Int32} (hy : h[63]? = some (.inl (8, [.inl m_furlongs, .inl m_many, .inl m_bagged, .inl m_legs, .inl m_most, .inl m_nap, .inl m_on, .inl m_biscuits, .inl m_races, .inl m_worn, .inl m_here, .inl m_minutes, .inl m_seed, .inl m_fault, .inr (.inr (1, 64)), .inr (.inr (1, 65)), .inr (.inr (1, 66)), .inr (.inr (1, 67)), .inr (.inr (1, 68)), .inr (.inr (1, 69)), .inr (.inr (1, 70)), .inr (.inr (1, 71)), .inr (.inr (1, 72)), .inr (.inr (1, 73)), .inr (.inr (1, 74)), .inr (.inr (1, 75)), .inr (.inr (1, 76)), .inr (.inr (1, 77)), .inr (.inr (1, 78)), .inl m_base, .inl m_at, .inl m_end, .inl m_number, .inl m_wrongAt, .inr (.inr (1, 79)), .inr (.inr (1, 80)), .inr (.inr (1, 81)), .inr (.inr (1, 82)), .inr (.inr (1, 83)), .inr (.inr (1, 84)), .inl m_bestMany, .inl m_bestHere, .inl m_bestWorn, .inl m_bestMinutes, .inl m_turn, .inl m_ever, .inl m_made, .inl m_ruleHere, .inl m_ruleMinutes, .inl m_ruleEver, .inr (.inr (1, 85)), .inl m_ran, .inl m_isKept]))) (hw : 0 ≤ m_furlongs.toInt ∧ m_furlongs.toInt ≤ 24 ∧ 0 ≤ m_many.toInt ∧ m_many.toInt ≤ 6 ∧ 0 ≤ m_here.toInt ∧ m_here.toInt ≤ 24 ∧ 0 ≤ m_ran.toInt ∧ m_ran.toInt ≤ 1000) (hk : m_isKept = 0 ∨ m_isKept = 1) (hl : m_furlongs.toInt < 24) (hq : ∀ (v : Int32) (h2 : List zx_C), zx_I h2 → (∀ i, i ∉ ([63, 65, 66] : List Nat) → h2[i]? = h[i]?) → Q (some (.inl v)) h2) : zx_M (d) 140 [.inr (.inr (1, 63)), .inl w, .inl q] h Q := by
  have el_1 : (1 : Int32).toInt = 1 := by decide
  obtain ⟨x1, c65_1, f65_1, rfl, l65_1⟩ := zi_g hI 65 (by decide)
  obtain ⟨x2, c66_2, f66_2, rfl, l66_2⟩ := zi_g hI 66 (by decide)
  have fr0 : ∀ i, i ∉ ([63, 65, 66] : List Nat) → h[i]? = h[i]? := fun _ _ => rfl
  have e1 : (1 : Int32).toInt = 1 := rfl
  have ef := fb_addI (x := m_furlongs) (y := 1) (by omega) (by omega)
  refine zx_M_of (Nat.le_of_ble_eq_true rfl) zm_140 (L := [some (.inr (.inr (1, 63))), some (.inl w), some (.inl q)]) rfl ?_
  refine zx_W_ins (pc' := 1) dX8_addsFurlong_0 rfl (fun _ => rfl) rfl ?_
  refine zw_gf (pc' := 4) dX8_addsFurlong_1 rfl rfl hy rfl ?_
  refine zx_W_ins (pc' := 5) dX8_addsFurlong_4 rfl (fun _ => rfl) rfl ?_
  refine zw_gf (pc' := 8) dX8_addsFurlong_5 rfl rfl hy rfl ?_
  refine zx_W_ins (pc' := 9) dX8_addsFurlong_8 rfl (fun _ => rfl) rfl ?_
  refine zw_ias (pc' := 10) dX8_addsFurlong_9 rfl c65_1 (zi_in (by have := l65_1; omega)) ?_
  obtain ⟨h3, e4⟩ : ∃ z, z = h.set 65 (.inr (0, .inl (f65_1.set m_furlongs.toNatClampNeg w))) := ⟨_, rfl⟩
  rw [← e4]
  have c5 : h3[65]? = some (.inr (0, .inl (f65_1.set m_furlongs.toNatClampNeg w))) := by rw [e4, List.getElem?_set_self (List.getElem?_eq_some_iff.mp c65_1).1]
  have c6 : h3[66]? = some (.inr (0, .inl f66_2)) := by rw [e4, List.getElem?_set_ne (by first | decide | omega)]; exact c66_2
  have c7 : h3[63]? = some (.inl (8, [.inl m_furlongs, .inl m_many, .inl m_bagged, .inl m_legs, .inl m_most, .inl m_nap, .inl m_on, .inl m_biscuits, .inl m_races, .inl m_worn, .inl m_here, .inl m_minutes, .inl m_seed, .inl m_fault, .inr (.inr (1, 64)), .inr (.inr (1, 65)), .inr (.inr (1, 66)), .inr (.inr (1, 67)), .inr (.inr (1, 68)), .inr (.inr (1, 69)), .inr (.inr (1, 70)), .inr (.inr (1, 71)), .inr (.inr (1, 72)), .inr (.inr (1, 73)), .inr (.inr (1, 74)), .inr (.inr (1, 75)), .inr (.inr (1, 76)), .inr (.inr (1, 77)), .inr (.inr (1, 78)), .inl m_base, .inl m_at, .inl m_end, .inl m_number, .inl m_wrongAt, .inr (.inr (1, 79)), .inr (.inr (1, 80)), .inr (.inr (1, 81)), .inr (.inr (1, 82)), .inr (.inr (1, 83)), .inr (.inr (1, 84)), .inl m_bestMany, .inl m_bestHere, .inl m_bestWorn, .inl m_bestMinutes, .inl m_turn, .inl m_ever, .inl m_made, .inl m_ruleHere, .inl m_ruleMinutes, .inl m_ruleEver, .inr (.inr (1, 85)), .inl m_ran, .inl m_isKept])) := by rw [e4, List.getElem?_set_ne (by first | decide | omega)]; exact hy
  have hI8 : zx_I h3 := by rw [e4]; exact zi_set hI (show zc_row 24 _ from ⟨_, rfl, by rw [List.length_set]; exact l65_1⟩) (by decide) (by decide)
  have l9 := (List.length_set (as := f65_1) (i := m_furlongs.toNatClampNeg) (a := w)).trans l65_1
  have fr10 : ∀ i, i ∉ ([63, 65, 66] : List Nat) → h3[i]? = h[i]? := fun i hi => Eq.trans (b := h[i]?) (by rw [e4, List.getElem?_set_ne (fun z => hi (by rw [← z]; decide))]) (fr0 i hi)
  refine zx_W_ins (pc' := 11) dX8_addsFurlong_10 rfl (fun _ => rfl) rfl ?_
  refine zw_gf (pc' := 14) dX8_addsFurlong_11 rfl rfl c7 rfl ?_
  refine zx_W_ins (pc' := 15) dX8_addsFurlong_14 rfl (fun _ => rfl) rfl ?_
  refine zw_gf (pc' := 18) dX8_addsFurlong_15 rfl rfl c7 rfl ?_
  refine zx_W_ins (pc' := 19) dX8_addsFurlong_18 rfl (fun _ => rfl) rfl ?_
  refine zw_ias (pc' := 20) dX8_addsFurlong_19 rfl c6 (zi_in (by have := l66_2; omega)) ?_
  obtain ⟨h11, e12⟩ : ∃ z, z = h3.set 66 (.inr (0, .inl (f66_2.set m_furlongs.toNatClampNeg q))) := ⟨_, rfl⟩
  rw [← e12]
  have c13 : h11[65]? = some (.inr (0, .inl (f65_1.set m_furlongs.toNatClampNeg w))) := by rw [e12, List.getElem?_set_ne (by first | decide | omega)]; exact c5
  have c14 : h11[66]? = some (.inr (0, .inl (f66_2.set m_furlongs.toNatClampNeg q))) := by rw [e12, List.getElem?_set_self (List.getElem?_eq_some_iff.mp c6).1]
  have c15 : h11[63]? = some (.inl (8, [.inl m_furlongs, .inl m_many, .inl m_bagged, .inl m_legs, .inl m_most, .inl m_nap, .inl m_on, .inl m_biscuits, .inl m_races, .inl m_worn, .inl m_here, .inl m_minutes, .inl m_seed, .inl m_fault, .inr (.inr (1, 64)), .inr (.inr (1, 65)), .inr (.inr (1, 66)), .inr (.inr (1, 67)), .inr (.inr (1, 68)), .inr (.inr (1, 69)), .inr (.inr (1, 70)), .inr (.inr (1, 71)), .inr (.inr (1, 72)), .inr (.inr (1, 73)), .inr (.inr (1, 74)), .inr (.inr (1, 75)), .inr (.inr (1, 76)), .inr (.inr (1, 77)), .inr (.inr (1, 78)), .inl m_base, .inl m_at, .inl m_end, .inl m_number, .inl m_wrongAt, .inr (.inr (1, 79)), .inr (.inr (1, 80)), .inr (.inr (1, 81)), .inr (.inr (1, 82)), .inr (.inr (1, 83)), .inr (.inr (1, 84)), .inl m_bestMany, .inl m_bestHere, .inl m_bestWorn, .inl m_bestMinutes, .inl m_turn, .inl m_ever, .inl m_made, .inl m_ruleHere, .inl m_ruleMinutes, .inl m_ruleEver, .inr (.inr (1, 85)), .inl m_ran, .inl m_isKept])) := by rw [e12, List.getElem?_set_ne (by first | decide | omega)]; exact c7
  have hI16 : zx_I h11 := by rw [e12]; exact zi_set hI8 (show zc_row 24 _ from ⟨_, rfl, by rw [List.length_set]; exact l66_2⟩) (by decide) (by decide)
  have l17 := (List.length_set (as := f66_2) (i := m_furlongs.toNatClampNeg) (a := q)).trans l66_2
  have fr18 : ∀ i, i ∉ ([63, 65, 66] : List Nat) → h11[i]? = h[i]? := fun i hi => Eq.trans (b := h3[i]?) (by rw [e12, List.getElem?_set_ne (fun z => hi (by rw [← z]; decide))]) (fr10 i hi)
  refine zx_W_ins (pc' := 21) dX8_addsFurlong_20 rfl (fun _ => rfl) rfl ?_
  refine zx_W_ins (pc' := 22) dX8_addsFurlong_21 rfl (fun _ => rfl) rfl ?_
  refine zw_gf (pc' := 25) dX8_addsFurlong_22 rfl rfl c15 rfl ?_
  refine zx_W_ins (pc' := 26) dX8_addsFurlong_25 rfl (fun _ => rfl) rfl ?_
  refine zw_ic (v := 1) (pc' := 27) dX8_addsFurlong_26 rfl rfl ?_
  refine zx_W_ins (pc' := 28) dX8_addsFurlong_27 rfl (fun _ => rfl) rfl ?_
  refine zw_pf (pc' := 31) dX8_addsFurlong_28 rfl rfl c15 rfl (fs' := [.inl (m_furlongs + 1), .inl m_many, .inl m_bagged, .inl m_legs, .inl m_most, .inl m_nap, .inl m_on, .inl m_biscuits, .inl m_races, .inl m_worn, .inl m_here, .inl m_minutes, .inl m_seed, .inl m_fault, .inr (.inr (1, 64)), .inr (.inr (1, 65)), .inr (.inr (1, 66)), .inr (.inr (1, 67)), .inr (.inr (1, 68)), .inr (.inr (1, 69)), .inr (.inr (1, 70)), .inr (.inr (1, 71)), .inr (.inr (1, 72)), .inr (.inr (1, 73)), .inr (.inr (1, 74)), .inr (.inr (1, 75)), .inr (.inr (1, 76)), .inr (.inr (1, 77)), .inr (.inr (1, 78)), .inl m_base, .inl m_at, .inl m_end, .inl m_number, .inl m_wrongAt, .inr (.inr (1, 79)), .inr (.inr (1, 80)), .inr (.inr (1, 81)), .inr (.inr (1, 82)), .inr (.inr (1, 83)), .inr (.inr (1, 84)), .inl m_bestMany, .inl m_bestHere, .inl m_bestWorn, .inl m_bestMinutes, .inl m_turn, .inl m_ever, .inl m_made, .inl m_ruleHere, .inl m_ruleMinutes, .inl m_ruleEver, .inr (.inr (1, 85)), .inl m_ran, .inl m_isKept]) rfl ?_
  obtain ⟨h19, e20⟩ : ∃ z, z = h11.set 63 (.inl (8, [.inl (m_furlongs + 1), .inl m_many, .inl m_bagged, .inl m_legs, .inl m_most, .inl m_nap, .inl m_on, .inl m_biscuits, .inl m_races, .inl m_worn, .inl m_here, .inl m_minutes, .inl m_seed, .inl m_fault, .inr (.inr (1, 64)), .inr (.inr (1, 65)), .inr (.inr (1, 66)), .inr (.inr (1, 67)), .inr (.inr (1, 68)), .inr (.inr (1, 69)), .inr (.inr (1, 70)), .inr (.inr (1, 71)), .inr (.inr (1, 72)), .inr (.inr (1, 73)), .inr (.inr (1, 74)), .inr (.inr (1, 75)), .inr (.inr (1, 76)), .inr (.inr (1, 77)), .inr (.inr (1, 78)), .inl m_base, .inl m_at, .inl m_end, .inl m_number, .inl m_wrongAt, .inr (.inr (1, 79)), .inr (.inr (1, 80)), .inr (.inr (1, 81)), .inr (.inr (1, 82)), .inr (.inr (1, 83)), .inr (.inr (1, 84)), .inl m_bestMany, .inl m_bestHere, .inl m_bestWorn, .inl m_bestMinutes, .inl m_turn, .inl m_ever, .inl m_made, .inl m_ruleHere, .inl m_ruleMinutes, .inl m_ruleEver, .inr (.inr (1, 85)), .inl m_ran, .inl m_isKept])) := ⟨_, rfl⟩
  rw [← e20]
  have c21 : h19[65]? = some (.inr (0, .inl (f65_1.set m_furlongs.toNatClampNeg w))) := by rw [e20, List.getElem?_set_ne (by first | decide | omega)]; exact c13
  have c22 : h19[66]? = some (.inr (0, .inl (f66_2.set m_furlongs.toNatClampNeg q))) := by rw [e20, List.getElem?_set_ne (by first | decide | omega)]; exact c14
  have c23 : h19[63]? = some (.inl (8, [.inl (m_furlongs + 1), .inl m_many, .inl m_bagged, .inl m_legs, .inl m_most, .inl m_nap, .inl m_on, .inl m_biscuits, .inl m_races, .inl m_worn, .inl m_here, .inl m_minutes, .inl m_seed, .inl m_fault, .inr (.inr (1, 64)), .inr (.inr (1, 65)), .inr (.inr (1, 66)), .inr (.inr (1, 67)), .inr (.inr (1, 68)), .inr (.inr (1, 69)), .inr (.inr (1, 70)), .inr (.inr (1, 71)), .inr (.inr (1, 72)), .inr (.inr (1, 73)), .inr (.inr (1, 74)), .inr (.inr (1, 75)), .inr (.inr (1, 76)), .inr (.inr (1, 77)), .inr (.inr (1, 78)), .inl m_base, .inl m_at, .inl m_end, .inl m_number, .inl m_wrongAt, .inr (.inr (1, 79)), .inr (.inr (1, 80)), .inr (.inr (1, 81)), .inr (.inr (1, 82)), .inr (.inr (1, 83)), .inr (.inr (1, 84)), .inl m_bestMany, .inl m_bestHere, .inl m_bestWorn, .inl m_bestMinutes, .inl m_turn, .inl m_ever, .inl m_made, .inl m_ruleHere, .inl m_ruleMinutes, .inl m_ruleEver, .inr (.inr (1, 85)), .inl m_ran, .inl m_isKept])) := by rw [e20, List.getElem?_set_self (List.getElem?_eq_some_iff.mp c15).1]
  have hI24 : zx_I h19 := by rw [e20]; exact zi_set hI16 (show zc_ref _ from ⟨_, _, _, _, _, _, _, _, _, _, _, _, _, _, _, _, _, _, _, _, _, _, _, _, _, _, _, _, _, _, _, rfl, by omega, by omega, by omega, by omega, by omega, by omega, by omega, by omega, by assumption⟩) (by decide) (by decide)
  have fr25 : ∀ i, i ∉ ([63, 65, 66] : List Nat) → h19[i]? = h[i]? := fun i hi => Eq.trans (b := h11[i]?) (by rw [e20, List.getElem?_set_ne (fun z => hi (by rw [← z]; decide))]) (fr18 i hi)
  refine zw_iret dX8_addsFurlong_31 rfl rfl ?_
  exact hq _ h19 hI24 fr25
def zt_142 : zx_MT := (8, yX8_furlong, cX8_furlong, 3, (some FieldType.int), 2, 0)
theorem zm_142 : zx_m 142 = zt_142 := rfl
theorem dX8_furlong_0 : decode cX8_furlong 0 = .ok (.iload_n 1, 1) := by decide +kernel
theorem dX8_furlong_1 : decode cX8_furlong 1 = .ok (.bipush (-3), 2) := by decide +kernel
theorem dX8_furlong_3 : decode cX8_furlong 3 = .ok (.if_icmp .lt 8, 3) := by decide +kernel
theorem dX8_furlong_6 : decode cX8_furlong 6 = .ok (.iload_n 1, 1) := by decide +kernel
theorem dX8_furlong_7 : decode cX8_furlong 7 = .ok (.iconst 3, 1) := by decide +kernel
theorem dX8_furlong_8 : decode cX8_furlong 8 = .ok (.if_icmp .le 10, 3) := by decide +kernel
theorem dX8_furlong_11 : decode cX8_furlong 11 = .ok (.aload_n 0, 1) := by decide +kernel
theorem dX8_furlong_12 : decode cX8_furlong 12 = .ok (.bipush (-6), 2) := by decide +kernel
theorem dX8_furlong_14 : decode cX8_furlong 14 = .ok (.invokevirtual 115, 3) := by decide +kernel
theorem dX8_furlong_17 : decode cX8_furlong 17 = .ok (.ireturn, 1) := by decide +kernel
theorem dX8_furlong_18 : decode cX8_furlong 18 = .ok (.aload_n 0, 1) := by decide +kernel
theorem dX8_furlong_19 : decode cX8_furlong 19 = .ok (.getfield 108, 3) := by decide +kernel
theorem dX8_furlong_22 : decode cX8_furlong 22 = .ok (.bipush 24, 2) := by decide +kernel
theorem dX8_furlong_24 : decode cX8_furlong 24 = .ok (.if_icmp .ne 12, 3) := by decide +kernel
theorem dX8_furlong_27 : decode cX8_furlong 27 = .ok (.aload_n 0, 1) := by decide +kernel
theorem dX8_furlong_28 : decode cX8_furlong 28 = .ok (.bipush (-7), 2) := by decide +kernel
theorem dX8_furlong_30 : decode cX8_furlong 30 = .ok (.invokevirtual 115, 3) := by decide +kernel
theorem dX8_furlong_33 : decode cX8_furlong 33 = .ok (.goto 17, 3) := by decide +kernel
theorem dX8_furlong_36 : decode cX8_furlong 36 = .ok (.aload_n 0, 1) := by decide +kernel
theorem dX8_furlong_37 : decode cX8_furlong 37 = .ok (.iload_n 1, 1) := by decide +kernel
theorem dX8_furlong_38 : decode cX8_furlong 38 = .ok (.iload_n 2, 1) := by decide +kernel
theorem dX8_furlong_39 : decode cX8_furlong 39 = .ok (.ifCond .eq 7, 3) := by decide +kernel
theorem dX8_furlong_42 : decode cX8_furlong 42 = .ok (.iconst 1, 1) := by decide +kernel
theorem dX8_furlong_43 : decode cX8_furlong 43 = .ok (.goto 4, 3) := by decide +kernel
theorem dX8_furlong_46 : decode cX8_furlong 46 = .ok (.iconst 0, 1) := by decide +kernel
theorem dX8_furlong_47 : decode cX8_furlong 47 = .ok (.invokevirtual 133, 3) := by decide +kernel
theorem dX8_furlong_50 : decode cX8_furlong 50 = .ok (.ireturn, 1) := by decide +kernel
theorem zc_142 {d : Nat} {h : List zx_C} {w : Int32} {q : Int32} {Q : Option zx_V → List zx_C → Prop} (hI : zx_I h)    (hq : ∀ (v : Int32) (h2 : List zx_C), zx_I h2 → (∀ i, i ∉ ([63, 64, 65, 66] : List Nat) → h2[i]? = h[i]?) → Q (some (.inl v)) h2) : zx_M (d + 1) 142 [.inr (.inr (1, 63)), .inl w, .inl q] h Q := by
  have el_m7 : ((-7) : Int32).toInt = -7 := by decide
  have el_m6 : ((-6) : Int32).toInt = -6 := by decide
  have el_m3 : ((-3) : Int32).toInt = -3 := by decide
  have el_0 : (0 : Int32).toInt = 0 := by decide
  have el_1 : (1 : Int32).toInt = 1 := by decide
  have el_3 : (3 : Int32).toInt = 3 := by decide
  have el_24 : (24 : Int32).toInt = 24 := by decide
  obtain ⟨x1, c63_1, m_furlongs1, m_many1, m_bagged1, m_legs1, m_most1, m_nap1, m_on1, m_biscuits1, m_races1, m_worn1, m_here1, m_minutes1, m_seed1, m_fault1, m_base1, m_at1, m_end1, m_number1, m_wrongAt1, m_bestMany1, m_bestHere1, m_bestWorn1, m_bestMinutes1, m_turn1, m_ever1, m_made1, m_ruleHere1, m_ruleMinutes1, m_ruleEver1, m_ran1, m_isKept1, rfl, q0_1, q1_1, q2_1, q3_1, q4_1, q5_1, q6_1, q7_1, q8_1⟩ := zi_g hI 63 (by decide)
  have fr0 : ∀ i, i ∉ ([63, 64, 65, 66] : List Nat) → h[i]? = h[i]? := fun _ _ => rfl
  refine zx_M_of (Nat.le_of_ble_eq_true rfl) zm_142 (L := [some (.inr (.inr (1, 63))), some (.inl w), some (.inl q)]) rfl ?_
  refine zx_W_ins (pc' := 1) dX8_furlong_0 rfl (fun _ => rfl) rfl ?_
  refine zw_bi (v := (-3)) (pc' := 3) dX8_furlong_1 rfl rfl ?_
  refine zw_icmp_lt (tgt := 11) (pc' := 6) dX8_furlong_3 rfl rfl (fun g2 => ?_) (fun g2 => ?_)
  · refine zx_W_ins (pc' := 12) dX8_furlong_11 rfl (fun _ => rfl) rfl ?_
    refine zw_bi (v := (-6)) (pc' := 14) dX8_furlong_12 rfl rfl ?_
    refine zw_iv (k := 125) (pc' := 17) dX8_furlong_14 rfl rfl rfl rfl c63_1 rfl rfl (zc_125 hI (by omega) (fun v3 h4 hI5 fr6 hvv3 _ => ?_))
    show zx_W _ _ _ _ _ _ _ [.inl v3] _ _
    have fr7 : ∀ i, i ∉ ([63, 64, 65, 66] : List Nat) → h4[i]? = h[i]? := fun i hi => Eq.trans (fr6 i (fun z => hi (by first | exact absurd z List.not_mem_nil | (simp only [List.mem_cons, List.not_mem_nil, or_false] at z ⊢; omega)))) (fr0 i hi)
    have c8 : h4[63]? = some (.inl (8, [.inl m_furlongs1, .inl m_many1, .inl m_bagged1, .inl m_legs1, .inl m_most1, .inl m_nap1, .inl m_on1, .inl m_biscuits1, .inl m_races1, .inl m_worn1, .inl m_here1, .inl m_minutes1, .inl m_seed1, .inl m_fault1, .inr (.inr (1, 64)), .inr (.inr (1, 65)), .inr (.inr (1, 66)), .inr (.inr (1, 67)), .inr (.inr (1, 68)), .inr (.inr (1, 69)), .inr (.inr (1, 70)), .inr (.inr (1, 71)), .inr (.inr (1, 72)), .inr (.inr (1, 73)), .inr (.inr (1, 74)), .inr (.inr (1, 75)), .inr (.inr (1, 76)), .inr (.inr (1, 77)), .inr (.inr (1, 78)), .inl m_base1, .inl m_at1, .inl m_end1, .inl m_number1, .inl m_wrongAt1, .inr (.inr (1, 79)), .inr (.inr (1, 80)), .inr (.inr (1, 81)), .inr (.inr (1, 82)), .inr (.inr (1, 83)), .inr (.inr (1, 84)), .inl m_bestMany1, .inl m_bestHere1, .inl m_bestWorn1, .inl m_bestMinutes1, .inl m_turn1, .inl m_ever1, .inl m_made1, .inl m_ruleHere1, .inl m_ruleMinutes1, .inl m_ruleEver1, .inr (.inr (1, 85)), .inl m_ran1, .inl m_isKept1])) := by rw [fr6 63 (by decide)]; exact c63_1
    obtain ⟨x9, c64_9, f64_9, rfl, l64_9⟩ := zi_g hI5 64 (by decide)
    refine zw_iret dX8_furlong_17 rfl rfl ?_
    exact hq _ h4 hI5 fr7
  · refine zx_W_ins (pc' := 7) dX8_furlong_6 rfl (fun _ => rfl) rfl ?_
    refine zw_ic (v := 3) (pc' := 8) dX8_furlong_7 rfl rfl ?_
    refine zw_icmp_le (tgt := 18) (pc' := 11) dX8_furlong_8 rfl rfl (fun g10 => ?_) (fun g10 => ?_)
    · refine zx_W_ins (pc' := 19) dX8_furlong_18 rfl (fun _ => rfl) rfl ?_
      refine zw_gf (pc' := 22) dX8_furlong_19 rfl rfl c63_1 rfl ?_
      refine zw_bi (v := 24) (pc' := 24) dX8_furlong_22 rfl rfl ?_
      refine zw_icmp_ne (tgt := 36) (pc' := 27) dX8_furlong_24 rfl rfl (fun g11 => ?_) (fun g11 => ?_)
      · have g11t : ¬ (m_furlongs1).toInt = (24 : Int32).toInt := fun z => g11 (Int32.toInt_inj.mp z)
        refine zx_W_ins (pc' := 37) dX8_furlong_36 rfl (fun _ => rfl) rfl ?_
        refine zx_W_ins (pc' := 38) dX8_furlong_37 rfl (fun _ => rfl) rfl ?_
        refine zx_W_ins (pc' := 39) dX8_furlong_38 rfl (fun _ => rfl) rfl ?_
        refine zw_if_eq (tgt := 46) (pc' := 42) dX8_furlong_39 rfl rfl (fun g12 => ?_) (fun g12 => ?_)
        · have g12t : (q).toInt = (0 : Int32).toInt := congrArg Int32.toInt g12
          refine zw_ic (v := 0) (pc' := 47) dX8_furlong_46 rfl rfl ?_
          refine zw_iv (k := 140) (pc' := 50) dX8_furlong_47 rfl rfl rfl rfl c63_1 rfl rfl (zc_140 hI c63_1 (by omega) (by assumption) (by omega) (fun v13 h14 hI15 fr16 _ => ?_))
          show zx_W _ _ _ _ _ _ _ [.inl v13] _ _
          have fr17 : ∀ i, i ∉ ([63, 64, 65, 66] : List Nat) → h14[i]? = h[i]? := fun i hi => Eq.trans (fr16 i (fun z => hi (by first | exact absurd z List.not_mem_nil | (simp only [List.mem_cons, List.not_mem_nil, or_false] at z ⊢; omega)))) (fr0 i hi)
          obtain ⟨x18, c63_18, m_furlongs18, m_many18, m_bagged18, m_legs18, m_most18, m_nap18, m_on18, m_biscuits18, m_races18, m_worn18, m_here18, m_minutes18, m_seed18, m_fault18, m_base18, m_at18, m_end18, m_number18, m_wrongAt18, m_bestMany18, m_bestHere18, m_bestWorn18, m_bestMinutes18, m_turn18, m_ever18, m_made18, m_ruleHere18, m_ruleMinutes18, m_ruleEver18, m_ran18, m_isKept18, rfl, q0_18, q1_18, q2_18, q3_18, q4_18, q5_18, q6_18, q7_18, q8_18⟩ := zi_g hI15 63 (by decide)
          obtain ⟨x19, c65_19, f65_19, rfl, l65_19⟩ := zi_g hI15 65 (by decide)
          obtain ⟨x20, c66_20, f66_20, rfl, l66_20⟩ := zi_g hI15 66 (by decide)
          refine zw_iret dX8_furlong_50 rfl rfl ?_
          exact hq _ h14 hI15 fr17
        · have g12t : ¬ (q).toInt = (0 : Int32).toInt := fun z => g12 (Int32.toInt_inj.mp z)
          refine zw_ic (v := 1) (pc' := 43) dX8_furlong_42 rfl rfl ?_
          refine zw_goto (tgt := 47) dX8_furlong_43 rfl ?_
          refine zw_iv (k := 140) (pc' := 50) dX8_furlong_47 rfl rfl rfl rfl c63_1 rfl rfl (zc_140 hI c63_1 (by omega) (by assumption) (by omega) (fun v21 h22 hI23 fr24 _ => ?_))
          show zx_W _ _ _ _ _ _ _ [.inl v21] _ _
          have fr25 : ∀ i, i ∉ ([63, 64, 65, 66] : List Nat) → h22[i]? = h[i]? := fun i hi => Eq.trans (fr24 i (fun z => hi (by first | exact absurd z List.not_mem_nil | (simp only [List.mem_cons, List.not_mem_nil, or_false] at z ⊢; omega)))) (fr0 i hi)
          obtain ⟨x26, c63_26, m_furlongs26, m_many26, m_bagged26, m_legs26, m_most26, m_nap26, m_on26, m_biscuits26, m_races26, m_worn26, m_here26, m_minutes26, m_seed26, m_fault26, m_base26, m_at26, m_end26, m_number26, m_wrongAt26, m_bestMany26, m_bestHere26, m_bestWorn26, m_bestMinutes26, m_turn26, m_ever26, m_made26, m_ruleHere26, m_ruleMinutes26, m_ruleEver26, m_ran26, m_isKept26, rfl, q0_26, q1_26, q2_26, q3_26, q4_26, q5_26, q6_26, q7_26, q8_26⟩ := zi_g hI23 63 (by decide)
          obtain ⟨x27, c65_27, f65_27, rfl, l65_27⟩ := zi_g hI23 65 (by decide)
          obtain ⟨x28, c66_28, f66_28, rfl, l66_28⟩ := zi_g hI23 66 (by decide)
          refine zw_iret dX8_furlong_50 rfl rfl ?_
          exact hq _ h22 hI23 fr25
      · have g11t : (m_furlongs1).toInt = (24 : Int32).toInt := congrArg Int32.toInt g11
        refine zx_W_ins (pc' := 28) dX8_furlong_27 rfl (fun _ => rfl) rfl ?_
        refine zw_bi (v := (-7)) (pc' := 30) dX8_furlong_28 rfl rfl ?_
        refine zw_iv (k := 125) (pc' := 33) dX8_furlong_30 rfl rfl rfl rfl c63_1 rfl rfl (zc_125 hI (by omega) (fun v29 h30 hI31 fr32 hvv29 _ => ?_))
        show zx_W _ _ _ _ _ _ _ [.inl v29] _ _
        have fr33 : ∀ i, i ∉ ([63, 64, 65, 66] : List Nat) → h30[i]? = h[i]? := fun i hi => Eq.trans (fr32 i (fun z => hi (by first | exact absurd z List.not_mem_nil | (simp only [List.mem_cons, List.not_mem_nil, or_false] at z ⊢; omega)))) (fr0 i hi)
        have c34 : h30[63]? = some (.inl (8, [.inl m_furlongs1, .inl m_many1, .inl m_bagged1, .inl m_legs1, .inl m_most1, .inl m_nap1, .inl m_on1, .inl m_biscuits1, .inl m_races1, .inl m_worn1, .inl m_here1, .inl m_minutes1, .inl m_seed1, .inl m_fault1, .inr (.inr (1, 64)), .inr (.inr (1, 65)), .inr (.inr (1, 66)), .inr (.inr (1, 67)), .inr (.inr (1, 68)), .inr (.inr (1, 69)), .inr (.inr (1, 70)), .inr (.inr (1, 71)), .inr (.inr (1, 72)), .inr (.inr (1, 73)), .inr (.inr (1, 74)), .inr (.inr (1, 75)), .inr (.inr (1, 76)), .inr (.inr (1, 77)), .inr (.inr (1, 78)), .inl m_base1, .inl m_at1, .inl m_end1, .inl m_number1, .inl m_wrongAt1, .inr (.inr (1, 79)), .inr (.inr (1, 80)), .inr (.inr (1, 81)), .inr (.inr (1, 82)), .inr (.inr (1, 83)), .inr (.inr (1, 84)), .inl m_bestMany1, .inl m_bestHere1, .inl m_bestWorn1, .inl m_bestMinutes1, .inl m_turn1, .inl m_ever1, .inl m_made1, .inl m_ruleHere1, .inl m_ruleMinutes1, .inl m_ruleEver1, .inr (.inr (1, 85)), .inl m_ran1, .inl m_isKept1])) := by rw [fr32 63 (by decide)]; exact c63_1
        obtain ⟨x35, c64_35, f64_35, rfl, l64_35⟩ := zi_g hI31 64 (by decide)
        refine zw_goto (tgt := 50) dX8_furlong_33 rfl ?_
        refine zw_iret dX8_furlong_50 rfl rfl ?_
        exact hq _ h30 hI31 fr33
    · refine zx_W_ins (pc' := 12) dX8_furlong_11 rfl (fun _ => rfl) rfl ?_
      refine zw_bi (v := (-6)) (pc' := 14) dX8_furlong_12 rfl rfl ?_
      refine zw_iv (k := 125) (pc' := 17) dX8_furlong_14 rfl rfl rfl rfl c63_1 rfl rfl (zc_125 hI (by omega) (fun v36 h37 hI38 fr39 hvv36 _ => ?_))
      show zx_W _ _ _ _ _ _ _ [.inl v36] _ _
      have fr40 : ∀ i, i ∉ ([63, 64, 65, 66] : List Nat) → h37[i]? = h[i]? := fun i hi => Eq.trans (fr39 i (fun z => hi (by first | exact absurd z List.not_mem_nil | (simp only [List.mem_cons, List.not_mem_nil, or_false] at z ⊢; omega)))) (fr0 i hi)
      have c41 : h37[63]? = some (.inl (8, [.inl m_furlongs1, .inl m_many1, .inl m_bagged1, .inl m_legs1, .inl m_most1, .inl m_nap1, .inl m_on1, .inl m_biscuits1, .inl m_races1, .inl m_worn1, .inl m_here1, .inl m_minutes1, .inl m_seed1, .inl m_fault1, .inr (.inr (1, 64)), .inr (.inr (1, 65)), .inr (.inr (1, 66)), .inr (.inr (1, 67)), .inr (.inr (1, 68)), .inr (.inr (1, 69)), .inr (.inr (1, 70)), .inr (.inr (1, 71)), .inr (.inr (1, 72)), .inr (.inr (1, 73)), .inr (.inr (1, 74)), .inr (.inr (1, 75)), .inr (.inr (1, 76)), .inr (.inr (1, 77)), .inr (.inr (1, 78)), .inl m_base1, .inl m_at1, .inl m_end1, .inl m_number1, .inl m_wrongAt1, .inr (.inr (1, 79)), .inr (.inr (1, 80)), .inr (.inr (1, 81)), .inr (.inr (1, 82)), .inr (.inr (1, 83)), .inr (.inr (1, 84)), .inl m_bestMany1, .inl m_bestHere1, .inl m_bestWorn1, .inl m_bestMinutes1, .inl m_turn1, .inl m_ever1, .inl m_made1, .inl m_ruleHere1, .inl m_ruleMinutes1, .inl m_ruleEver1, .inr (.inr (1, 85)), .inl m_ran1, .inl m_isKept1])) := by rw [fr39 63 (by decide)]; exact c63_1
      obtain ⟨x42, c64_42, f64_42, rfl, l64_42⟩ := zi_g hI38 64 (by decide)
      refine zw_iret dX8_furlong_17 rfl rfl ?_
      exact hq _ h37 hI38 fr40
def zt_165 : zx_MT := (8, yX8_loadOf, cX8_loadOf, 4, (some FieldType.int), 2, 0)
theorem zm_165 : zx_m 165 = zt_165 := rfl
theorem dX8_loadOf_0 : decode cX8_loadOf 0 = .ok (.iconst 4, 1) := by decide +kernel
theorem dX8_loadOf_1 : decode cX8_loadOf 1 = .ok (.iload_n 2, 1) := by decide +kernel
theorem dX8_loadOf_2 : decode cX8_loadOf 2 = .ok (.iadd, 1) := by decide +kernel
theorem dX8_loadOf_3 : decode cX8_loadOf 3 = .ok (.istore_n 3, 1) := by decide +kernel
theorem dX8_loadOf_4 : decode cX8_loadOf 4 = .ok (.aload_n 0, 1) := by decide +kernel
theorem dX8_loadOf_5 : decode cX8_loadOf 5 = .ok (.getfield 47, 3) := by decide +kernel
theorem dX8_loadOf_8 : decode cX8_loadOf 8 = .ok (.iload_n 1, 1) := by decide +kernel
theorem dX8_loadOf_9 : decode cX8_loadOf 9 = .ok (.iaload, 1) := by decide +kernel
theorem dX8_loadOf_10 : decode cX8_loadOf 10 = .ok (.tableswitch 79 1 6 #[38, 50, 44, 56, 79, 62], 38) := by decide +kernel
theorem dX8_loadOf_48 : decode cX8_loadOf 48 = .ok (.iinc 3 (-1), 3) := by decide +kernel
theorem dX8_loadOf_51 : decode cX8_loadOf 51 = .ok (.goto 38, 3) := by decide +kernel
theorem dX8_loadOf_54 : decode cX8_loadOf 54 = .ok (.iinc 3 (-2), 3) := by decide +kernel
theorem dX8_loadOf_57 : decode cX8_loadOf 57 = .ok (.goto 32, 3) := by decide +kernel
theorem dX8_loadOf_60 : decode cX8_loadOf 60 = .ok (.iinc 3 1, 3) := by decide +kernel
theorem dX8_loadOf_63 : decode cX8_loadOf 63 = .ok (.goto 26, 3) := by decide +kernel
theorem dX8_loadOf_66 : decode cX8_loadOf 66 = .ok (.iinc 3 2, 3) := by decide +kernel
theorem dX8_loadOf_69 : decode cX8_loadOf 69 = .ok (.goto 20, 3) := by decide +kernel
theorem dX8_loadOf_72 : decode cX8_loadOf 72 = .ok (.iload_n 3, 1) := by decide +kernel
theorem dX8_loadOf_73 : decode cX8_loadOf 73 = .ok (.iconst 2, 1) := by decide +kernel
theorem dX8_loadOf_74 : decode cX8_loadOf 74 = .ok (.aload_n 0, 1) := by decide +kernel
theorem dX8_loadOf_75 : decode cX8_loadOf 75 = .ok (.getfield 53, 3) := by decide +kernel
theorem dX8_loadOf_78 : decode cX8_loadOf 78 = .ok (.iload_n 1, 1) := by decide +kernel
theorem dX8_loadOf_79 : decode cX8_loadOf 79 = .ok (.iaload, 1) := by decide +kernel
theorem dX8_loadOf_80 : decode cX8_loadOf 80 = .ok (.bipush 10, 2) := by decide +kernel
theorem dX8_loadOf_82 : decode cX8_loadOf 82 = .ok (.idiv, 1) := by decide +kernel
theorem dX8_loadOf_83 : decode cX8_loadOf 83 = .ok (.iadd, 1) := by decide +kernel
theorem dX8_loadOf_84 : decode cX8_loadOf 84 = .ok (.iadd, 1) := by decide +kernel
theorem dX8_loadOf_85 : decode cX8_loadOf 85 = .ok (.istore_n 3, 1) := by decide +kernel
theorem dX8_loadOf_86 : decode cX8_loadOf 86 = .ok (.goto 3, 3) := by decide +kernel
theorem dX8_loadOf_89 : decode cX8_loadOf 89 = .ok (.aload_n 0, 1) := by decide +kernel
theorem dX8_loadOf_90 : decode cX8_loadOf 90 = .ok (.getfield 9, 3) := by decide +kernel
theorem dX8_loadOf_93 : decode cX8_loadOf 93 = .ok (.iload_n 1, 1) := by decide +kernel
theorem dX8_loadOf_94 : decode cX8_loadOf 94 = .ok (.if_icmp .ne 6, 3) := by decide +kernel
theorem dX8_loadOf_97 : decode cX8_loadOf 97 = .ok (.iinc 3 2, 3) := by decide +kernel
theorem dX8_loadOf_100 : decode cX8_loadOf 100 = .ok (.iload_n 3, 1) := by decide +kernel
theorem dX8_loadOf_101 : decode cX8_loadOf 101 = .ok (.iconst 1, 1) := by decide +kernel
theorem dX8_loadOf_102 : decode cX8_loadOf 102 = .ok (.if_icmp .ge 7, 3) := by decide +kernel
theorem dX8_loadOf_105 : decode cX8_loadOf 105 = .ok (.iconst 1, 1) := by decide +kernel
theorem dX8_loadOf_106 : decode cX8_loadOf 106 = .ok (.goto 4, 3) := by decide +kernel
theorem dX8_loadOf_109 : decode cX8_loadOf 109 = .ok (.iload_n 3, 1) := by decide +kernel
theorem dX8_loadOf_110 : decode cX8_loadOf 110 = .ok (.ireturn, 1) := by decide +kernel
theorem zc_165 {d : Nat} {h : List zx_C} {q : Int32} {w : Int32} {Q : Option zx_V → List zx_C → Prop} (hI : zx_I h)   (hw : 0 ≤ q.toInt ∧ q.toInt < 6) (hq : ∀ (v : Int32) (h2 : List zx_C), zx_I h2 → (∀ i, i ∉ ([] : List Nat) → h2[i]? = h[i]?) → Q (some (.inl v)) h2) : zx_M (d) 165 [.inr (.inr (1, 63)), .inl q, .inl w] h Q := by
  have el_m2 : ((-2) : Int32).toInt = -2 := by decide
  have el_m1 : ((-1) : Int32).toInt = -1 := by decide
  have el_1 : (1 : Int32).toInt = 1 := by decide
  have el_2 : (2 : Int32).toInt = 2 := by decide
  have el_4 : (4 : Int32).toInt = 4 := by decide
  have el_10 : (10 : Int32).toInt = 10 := by decide
  obtain ⟨x1, c63_1, m_furlongs1, m_many1, m_bagged1, m_legs1, m_most1, m_nap1, m_on1, m_biscuits1, m_races1, m_worn1, m_here1, m_minutes1, m_seed1, m_fault1, m_base1, m_at1, m_end1, m_number1, m_wrongAt1, m_bestMany1, m_bestHere1, m_bestWorn1, m_bestMinutes1, m_turn1, m_ever1, m_made1, m_ruleHere1, m_ruleMinutes1, m_ruleEver1, m_ran1, m_isKept1, rfl, q0_1, q1_1, q2_1, q3_1, q4_1, q5_1, q6_1, q7_1, q8_1⟩ := zi_g hI 63 (by decide)
  obtain ⟨x2, c67_2, f67_2, rfl, l67_2, b67_2⟩ := zi_g hI 67 (by decide)
  obtain ⟨x3, c69_3, f69_3, rfl, l69_3⟩ := zi_g hI 69 (by decide)
  have fr0 : ∀ i, i ∉ ([] : List Nat) → h[i]? = h[i]? := fun _ _ => rfl
  refine zx_M_of (Nat.le_of_ble_eq_true rfl) zm_165 (L := [some (.inr (.inr (1, 63))), some (.inl q), some (.inl w), none]) rfl ?_
  refine zw_ic (v := 4) (pc' := 1) dX8_loadOf_0 rfl rfl ?_
  refine zx_W_ins (pc' := 2) dX8_loadOf_1 rfl (fun _ => rfl) rfl ?_
  refine zx_W_ins (pc' := 3) dX8_loadOf_2 rfl (fun _ => rfl) rfl ?_
  refine zx_W_ins (pc' := 4) (L' := [some (.inr (.inr (1, 63))), some (.inl q), some (.inl w), some (.inl (4 + w))]) dX8_loadOf_3 rfl (fun _ => rfl) rfl ?_
  refine zx_W_ins (pc' := 5) dX8_loadOf_4 rfl (fun _ => rfl) rfl ?_
  refine zw_gf (pc' := 8) dX8_loadOf_5 rfl rfl c63_1 rfl ?_
  refine zx_W_ins (pc' := 9) dX8_loadOf_8 rfl (fun _ => rfl) rfl ?_
  refine zw_ial (pc' := 10) dX8_loadOf_9 rfl c67_2 (zi_in (by have := l67_2; omega)) ?_
  have bb4 := b67_2 q.toNatClampNeg (by have := (zi_in (x := q) (n := 6) (by omega)).2; omega)
  refine zw_tsc (tgd := 89) dX8_loadOf_10 rfl [48, 60, 54, 66, 89, 72] (by decide) (by decide) (fun g5 => ?_) (zl_cons (fun g5 => ?_) (zl_cons (fun g5 => ?_) (zl_cons (fun g5 => ?_) (zl_cons (fun g5 => ?_) (zl_cons (fun g5 => ?_) (zl_cons (fun g5 => ?_) (zl_nil)))))))
  · refine zx_W_ins (pc' := 90) dX8_loadOf_89 rfl (fun _ => rfl) rfl ?_
    refine zw_gf (pc' := 93) dX8_loadOf_90 rfl rfl c63_1 rfl ?_
    refine zx_W_ins (pc' := 94) dX8_loadOf_93 rfl (fun _ => rfl) rfl ?_
    refine zw_icmp_ne (tgt := 100) (pc' := 97) dX8_loadOf_94 rfl rfl (fun g6 => ?_) (fun g6 => ?_)
    · have g6t : ¬ (m_bagged1).toInt = (q : Int32).toInt := fun z => g6 (Int32.toInt_inj.mp z)
      refine zx_W_ins (pc' := 101) dX8_loadOf_100 rfl (fun _ => rfl) rfl ?_
      refine zw_ic (v := 1) (pc' := 102) dX8_loadOf_101 rfl rfl ?_
      refine zw_icmp_ge (tgt := 109) (pc' := 105) dX8_loadOf_102 rfl rfl (fun g7 => ?_) (fun g7 => ?_)
      · refine zx_W_ins (pc' := 110) dX8_loadOf_109 rfl (fun _ => rfl) rfl ?_
        refine zw_iret dX8_loadOf_110 rfl rfl ?_
        exact hq _ h hI fr0
      · refine zw_ic (v := 1) (pc' := 106) dX8_loadOf_105 rfl rfl ?_
        refine zw_goto (tgt := 110) dX8_loadOf_106 rfl ?_
        refine zw_iret dX8_loadOf_110 rfl rfl ?_
        exact hq _ h hI fr0
    · have g6t : (m_bagged1).toInt = (q : Int32).toInt := congrArg Int32.toInt g6
      refine zx_W_ins (pc' := 100) (L' := [some (.inr (.inr (1, 63))), some (.inl q), some (.inl w), some (.inl ((4 + w) + 2))]) dX8_loadOf_97 rfl (fun _ => rfl) rfl ?_
      refine zx_W_ins (pc' := 101) dX8_loadOf_100 rfl (fun _ => rfl) rfl ?_
      refine zw_ic (v := 1) (pc' := 102) dX8_loadOf_101 rfl rfl ?_
      refine zw_icmp_ge (tgt := 109) (pc' := 105) dX8_loadOf_102 rfl rfl (fun g8 => ?_) (fun g8 => ?_)
      · refine zx_W_ins (pc' := 110) dX8_loadOf_109 rfl (fun _ => rfl) rfl ?_
        refine zw_iret dX8_loadOf_110 rfl rfl ?_
        exact hq _ h hI fr0
      · refine zw_ic (v := 1) (pc' := 106) dX8_loadOf_105 rfl rfl ?_
        refine zw_goto (tgt := 110) dX8_loadOf_106 rfl ?_
        refine zw_iret dX8_loadOf_110 rfl rfl ?_
        exact hq _ h hI fr0
  · refine zx_W_ins (pc' := 51) (L' := [some (.inr (.inr (1, 63))), some (.inl q), some (.inl w), some (.inl ((4 + w) + (-1)))]) dX8_loadOf_48 rfl (fun _ => rfl) rfl ?_
    refine zw_goto (tgt := 89) dX8_loadOf_51 rfl ?_
    refine zx_W_ins (pc' := 90) dX8_loadOf_89 rfl (fun _ => rfl) rfl ?_
    refine zw_gf (pc' := 93) dX8_loadOf_90 rfl rfl c63_1 rfl ?_
    refine zx_W_ins (pc' := 94) dX8_loadOf_93 rfl (fun _ => rfl) rfl ?_
    refine zw_icmp_ne (tgt := 100) (pc' := 97) dX8_loadOf_94 rfl rfl (fun g9 => ?_) (fun g9 => ?_)
    · have g9t : ¬ (m_bagged1).toInt = (q : Int32).toInt := fun z => g9 (Int32.toInt_inj.mp z)
      refine zx_W_ins (pc' := 101) dX8_loadOf_100 rfl (fun _ => rfl) rfl ?_
      refine zw_ic (v := 1) (pc' := 102) dX8_loadOf_101 rfl rfl ?_
      refine zw_icmp_ge (tgt := 109) (pc' := 105) dX8_loadOf_102 rfl rfl (fun g10 => ?_) (fun g10 => ?_)
      · refine zx_W_ins (pc' := 110) dX8_loadOf_109 rfl (fun _ => rfl) rfl ?_
        refine zw_iret dX8_loadOf_110 rfl rfl ?_
        exact hq _ h hI fr0
      · refine zw_ic (v := 1) (pc' := 106) dX8_loadOf_105 rfl rfl ?_
        refine zw_goto (tgt := 110) dX8_loadOf_106 rfl ?_
        refine zw_iret dX8_loadOf_110 rfl rfl ?_
        exact hq _ h hI fr0
    · have g9t : (m_bagged1).toInt = (q : Int32).toInt := congrArg Int32.toInt g9
      refine zx_W_ins (pc' := 100) (L' := [some (.inr (.inr (1, 63))), some (.inl q), some (.inl w), some (.inl (((4 + w) + (-1)) + 2))]) dX8_loadOf_97 rfl (fun _ => rfl) rfl ?_
      refine zx_W_ins (pc' := 101) dX8_loadOf_100 rfl (fun _ => rfl) rfl ?_
      refine zw_ic (v := 1) (pc' := 102) dX8_loadOf_101 rfl rfl ?_
      refine zw_icmp_ge (tgt := 109) (pc' := 105) dX8_loadOf_102 rfl rfl (fun g11 => ?_) (fun g11 => ?_)
      · refine zx_W_ins (pc' := 110) dX8_loadOf_109 rfl (fun _ => rfl) rfl ?_
        refine zw_iret dX8_loadOf_110 rfl rfl ?_
        exact hq _ h hI fr0
      · refine zw_ic (v := 1) (pc' := 106) dX8_loadOf_105 rfl rfl ?_
        refine zw_goto (tgt := 110) dX8_loadOf_106 rfl ?_
        refine zw_iret dX8_loadOf_110 rfl rfl ?_
        exact hq _ h hI fr0
  · refine zx_W_ins (pc' := 63) (L' := [some (.inr (.inr (1, 63))), some (.inl q), some (.inl w), some (.inl ((4 + w) + 1))]) dX8_loadOf_60 rfl (fun _ => rfl) rfl ?_
    refine zw_goto (tgt := 89) dX8_loadOf_63 rfl ?_
    refine zx_W_ins (pc' := 90) dX8_loadOf_89 rfl (fun _ => rfl) rfl ?_
    refine zw_gf (pc' := 93) dX8_loadOf_90 rfl rfl c63_1 rfl ?_
    refine zx_W_ins (pc' := 94) dX8_loadOf_93 rfl (fun _ => rfl) rfl ?_
    refine zw_icmp_ne (tgt := 100) (pc' := 97) dX8_loadOf_94 rfl rfl (fun g12 => ?_) (fun g12 => ?_)
    · have g12t : ¬ (m_bagged1).toInt = (q : Int32).toInt := fun z => g12 (Int32.toInt_inj.mp z)
      refine zx_W_ins (pc' := 101) dX8_loadOf_100 rfl (fun _ => rfl) rfl ?_
      refine zw_ic (v := 1) (pc' := 102) dX8_loadOf_101 rfl rfl ?_
      refine zw_icmp_ge (tgt := 109) (pc' := 105) dX8_loadOf_102 rfl rfl (fun g13 => ?_) (fun g13 => ?_)
      · refine zx_W_ins (pc' := 110) dX8_loadOf_109 rfl (fun _ => rfl) rfl ?_
        refine zw_iret dX8_loadOf_110 rfl rfl ?_
        exact hq _ h hI fr0
      · refine zw_ic (v := 1) (pc' := 106) dX8_loadOf_105 rfl rfl ?_
        refine zw_goto (tgt := 110) dX8_loadOf_106 rfl ?_
        refine zw_iret dX8_loadOf_110 rfl rfl ?_
        exact hq _ h hI fr0
    · have g12t : (m_bagged1).toInt = (q : Int32).toInt := congrArg Int32.toInt g12
      refine zx_W_ins (pc' := 100) (L' := [some (.inr (.inr (1, 63))), some (.inl q), some (.inl w), some (.inl (((4 + w) + 1) + 2))]) dX8_loadOf_97 rfl (fun _ => rfl) rfl ?_
      refine zx_W_ins (pc' := 101) dX8_loadOf_100 rfl (fun _ => rfl) rfl ?_
      refine zw_ic (v := 1) (pc' := 102) dX8_loadOf_101 rfl rfl ?_
      refine zw_icmp_ge (tgt := 109) (pc' := 105) dX8_loadOf_102 rfl rfl (fun g14 => ?_) (fun g14 => ?_)
      · refine zx_W_ins (pc' := 110) dX8_loadOf_109 rfl (fun _ => rfl) rfl ?_
        refine zw_iret dX8_loadOf_110 rfl rfl ?_
        exact hq _ h hI fr0
      · refine zw_ic (v := 1) (pc' := 106) dX8_loadOf_105 rfl rfl ?_
        refine zw_goto (tgt := 110) dX8_loadOf_106 rfl ?_
        refine zw_iret dX8_loadOf_110 rfl rfl ?_
        exact hq _ h hI fr0
  · refine zx_W_ins (pc' := 57) (L' := [some (.inr (.inr (1, 63))), some (.inl q), some (.inl w), some (.inl ((4 + w) + (-2)))]) dX8_loadOf_54 rfl (fun _ => rfl) rfl ?_
    refine zw_goto (tgt := 89) dX8_loadOf_57 rfl ?_
    refine zx_W_ins (pc' := 90) dX8_loadOf_89 rfl (fun _ => rfl) rfl ?_
    refine zw_gf (pc' := 93) dX8_loadOf_90 rfl rfl c63_1 rfl ?_
    refine zx_W_ins (pc' := 94) dX8_loadOf_93 rfl (fun _ => rfl) rfl ?_
    refine zw_icmp_ne (tgt := 100) (pc' := 97) dX8_loadOf_94 rfl rfl (fun g15 => ?_) (fun g15 => ?_)
    · have g15t : ¬ (m_bagged1).toInt = (q : Int32).toInt := fun z => g15 (Int32.toInt_inj.mp z)
      refine zx_W_ins (pc' := 101) dX8_loadOf_100 rfl (fun _ => rfl) rfl ?_
      refine zw_ic (v := 1) (pc' := 102) dX8_loadOf_101 rfl rfl ?_
      refine zw_icmp_ge (tgt := 109) (pc' := 105) dX8_loadOf_102 rfl rfl (fun g16 => ?_) (fun g16 => ?_)
      · refine zx_W_ins (pc' := 110) dX8_loadOf_109 rfl (fun _ => rfl) rfl ?_
        refine zw_iret dX8_loadOf_110 rfl rfl ?_
        exact hq _ h hI fr0
      · refine zw_ic (v := 1) (pc' := 106) dX8_loadOf_105 rfl rfl ?_
        refine zw_goto (tgt := 110) dX8_loadOf_106 rfl ?_
        refine zw_iret dX8_loadOf_110 rfl rfl ?_
        exact hq _ h hI fr0
    · have g15t : (m_bagged1).toInt = (q : Int32).toInt := congrArg Int32.toInt g15
      refine zx_W_ins (pc' := 100) (L' := [some (.inr (.inr (1, 63))), some (.inl q), some (.inl w), some (.inl (((4 + w) + (-2)) + 2))]) dX8_loadOf_97 rfl (fun _ => rfl) rfl ?_
      refine zx_W_ins (pc' := 101) dX8_loadOf_100 rfl (fun _ => rfl) rfl ?_
      refine zw_ic (v := 1) (pc' := 102) dX8_loadOf_101 rfl rfl ?_
      refine zw_icmp_ge (tgt := 109) (pc' := 105) dX8_loadOf_102 rfl rfl (fun g17 => ?_) (fun g17 => ?_)
      · refine zx_W_ins (pc' := 110) dX8_loadOf_109 rfl (fun _ => rfl) rfl ?_
        refine zw_iret dX8_loadOf_110 rfl rfl ?_
        exact hq _ h hI fr0
      · refine zw_ic (v := 1) (pc' := 106) dX8_loadOf_105 rfl rfl ?_
        refine zw_goto (tgt := 110) dX8_loadOf_106 rfl ?_
        refine zw_iret dX8_loadOf_110 rfl rfl ?_
        exact hq _ h hI fr0
  · refine zx_W_ins (pc' := 69) (L' := [some (.inr (.inr (1, 63))), some (.inl q), some (.inl w), some (.inl ((4 + w) + 2))]) dX8_loadOf_66 rfl (fun _ => rfl) rfl ?_
    refine zw_goto (tgt := 89) dX8_loadOf_69 rfl ?_
    refine zx_W_ins (pc' := 90) dX8_loadOf_89 rfl (fun _ => rfl) rfl ?_
    refine zw_gf (pc' := 93) dX8_loadOf_90 rfl rfl c63_1 rfl ?_
    refine zx_W_ins (pc' := 94) dX8_loadOf_93 rfl (fun _ => rfl) rfl ?_
    refine zw_icmp_ne (tgt := 100) (pc' := 97) dX8_loadOf_94 rfl rfl (fun g18 => ?_) (fun g18 => ?_)
    · have g18t : ¬ (m_bagged1).toInt = (q : Int32).toInt := fun z => g18 (Int32.toInt_inj.mp z)
      refine zx_W_ins (pc' := 101) dX8_loadOf_100 rfl (fun _ => rfl) rfl ?_
      refine zw_ic (v := 1) (pc' := 102) dX8_loadOf_101 rfl rfl ?_
      refine zw_icmp_ge (tgt := 109) (pc' := 105) dX8_loadOf_102 rfl rfl (fun g19 => ?_) (fun g19 => ?_)
      · refine zx_W_ins (pc' := 110) dX8_loadOf_109 rfl (fun _ => rfl) rfl ?_
        refine zw_iret dX8_loadOf_110 rfl rfl ?_
        exact hq _ h hI fr0
      · refine zw_ic (v := 1) (pc' := 106) dX8_loadOf_105 rfl rfl ?_
        refine zw_goto (tgt := 110) dX8_loadOf_106 rfl ?_
        refine zw_iret dX8_loadOf_110 rfl rfl ?_
        exact hq _ h hI fr0
    · have g18t : (m_bagged1).toInt = (q : Int32).toInt := congrArg Int32.toInt g18
      refine zx_W_ins (pc' := 100) (L' := [some (.inr (.inr (1, 63))), some (.inl q), some (.inl w), some (.inl (((4 + w) + 2) + 2))]) dX8_loadOf_97 rfl (fun _ => rfl) rfl ?_
      refine zx_W_ins (pc' := 101) dX8_loadOf_100 rfl (fun _ => rfl) rfl ?_
      refine zw_ic (v := 1) (pc' := 102) dX8_loadOf_101 rfl rfl ?_
      refine zw_icmp_ge (tgt := 109) (pc' := 105) dX8_loadOf_102 rfl rfl (fun g20 => ?_) (fun g20 => ?_)
      · refine zx_W_ins (pc' := 110) dX8_loadOf_109 rfl (fun _ => rfl) rfl ?_
        refine zw_iret dX8_loadOf_110 rfl rfl ?_
        exact hq _ h hI fr0
      · refine zw_ic (v := 1) (pc' := 106) dX8_loadOf_105 rfl rfl ?_
        refine zw_goto (tgt := 110) dX8_loadOf_106 rfl ?_
        refine zw_iret dX8_loadOf_110 rfl rfl ?_
        exact hq _ h hI fr0
  · refine zx_W_ins (pc' := 90) dX8_loadOf_89 rfl (fun _ => rfl) rfl ?_
    refine zw_gf (pc' := 93) dX8_loadOf_90 rfl rfl c63_1 rfl ?_
    refine zx_W_ins (pc' := 94) dX8_loadOf_93 rfl (fun _ => rfl) rfl ?_
    refine zw_icmp_ne (tgt := 100) (pc' := 97) dX8_loadOf_94 rfl rfl (fun g21 => ?_) (fun g21 => ?_)
    · have g21t : ¬ (m_bagged1).toInt = (q : Int32).toInt := fun z => g21 (Int32.toInt_inj.mp z)
      refine zx_W_ins (pc' := 101) dX8_loadOf_100 rfl (fun _ => rfl) rfl ?_
      refine zw_ic (v := 1) (pc' := 102) dX8_loadOf_101 rfl rfl ?_
      refine zw_icmp_ge (tgt := 109) (pc' := 105) dX8_loadOf_102 rfl rfl (fun g22 => ?_) (fun g22 => ?_)
      · refine zx_W_ins (pc' := 110) dX8_loadOf_109 rfl (fun _ => rfl) rfl ?_
        refine zw_iret dX8_loadOf_110 rfl rfl ?_
        exact hq _ h hI fr0
      · refine zw_ic (v := 1) (pc' := 106) dX8_loadOf_105 rfl rfl ?_
        refine zw_goto (tgt := 110) dX8_loadOf_106 rfl ?_
        refine zw_iret dX8_loadOf_110 rfl rfl ?_
        exact hq _ h hI fr0
    · have g21t : (m_bagged1).toInt = (q : Int32).toInt := congrArg Int32.toInt g21
      refine zx_W_ins (pc' := 100) (L' := [some (.inr (.inr (1, 63))), some (.inl q), some (.inl w), some (.inl ((4 + w) + 2))]) dX8_loadOf_97 rfl (fun _ => rfl) rfl ?_
      refine zx_W_ins (pc' := 101) dX8_loadOf_100 rfl (fun _ => rfl) rfl ?_
      refine zw_ic (v := 1) (pc' := 102) dX8_loadOf_101 rfl rfl ?_
      refine zw_icmp_ge (tgt := 109) (pc' := 105) dX8_loadOf_102 rfl rfl (fun g23 => ?_) (fun g23 => ?_)
      · refine zx_W_ins (pc' := 110) dX8_loadOf_109 rfl (fun _ => rfl) rfl ?_
        refine zw_iret dX8_loadOf_110 rfl rfl ?_
        exact hq _ h hI fr0
      · refine zw_ic (v := 1) (pc' := 106) dX8_loadOf_105 rfl rfl ?_
        refine zw_goto (tgt := 110) dX8_loadOf_106 rfl ?_
        refine zw_iret dX8_loadOf_110 rfl rfl ?_
        exact hq _ h hI fr0
  · refine zx_W_ins (pc' := 73) dX8_loadOf_72 rfl (fun _ => rfl) rfl ?_
    refine zw_ic (v := 2) (pc' := 74) dX8_loadOf_73 rfl rfl ?_
    refine zx_W_ins (pc' := 75) dX8_loadOf_74 rfl (fun _ => rfl) rfl ?_
    refine zw_gf (pc' := 78) dX8_loadOf_75 rfl rfl c63_1 rfl ?_
    refine zx_W_ins (pc' := 79) dX8_loadOf_78 rfl (fun _ => rfl) rfl ?_
    refine zw_ial (pc' := 80) dX8_loadOf_79 rfl c69_3 (zi_in (by have := l69_3; omega)) ?_
    refine zw_bi (v := 10) (pc' := 82) dX8_loadOf_80 rfl rfl ?_
    refine zw_div (pc' := 83) dX8_loadOf_82 rfl (by decide) ?_
    refine zx_W_ins (pc' := 84) dX8_loadOf_83 rfl (fun _ => rfl) rfl ?_
    refine zx_W_ins (pc' := 85) dX8_loadOf_84 rfl (fun _ => rfl) rfl ?_
    refine zx_W_ins (pc' := 86) (L' := [some (.inr (.inr (1, 63))), some (.inl q), some (.inl w), some (.inl ((4 + w) + (2 + ((f69_3.getD q.toNatClampNeg 0) / 10))))]) dX8_loadOf_85 rfl (fun _ => rfl) rfl ?_
    refine zw_goto (tgt := 89) dX8_loadOf_86 rfl ?_
    refine zx_W_ins (pc' := 90) dX8_loadOf_89 rfl (fun _ => rfl) rfl ?_
    refine zw_gf (pc' := 93) dX8_loadOf_90 rfl rfl c63_1 rfl ?_
    refine zx_W_ins (pc' := 94) dX8_loadOf_93 rfl (fun _ => rfl) rfl ?_
    refine zw_icmp_ne (tgt := 100) (pc' := 97) dX8_loadOf_94 rfl rfl (fun g24 => ?_) (fun g24 => ?_)
    · have g24t : ¬ (m_bagged1).toInt = (q : Int32).toInt := fun z => g24 (Int32.toInt_inj.mp z)
      refine zx_W_ins (pc' := 101) dX8_loadOf_100 rfl (fun _ => rfl) rfl ?_
      refine zw_ic (v := 1) (pc' := 102) dX8_loadOf_101 rfl rfl ?_
      refine zw_icmp_ge (tgt := 109) (pc' := 105) dX8_loadOf_102 rfl rfl (fun g25 => ?_) (fun g25 => ?_)
      · refine zx_W_ins (pc' := 110) dX8_loadOf_109 rfl (fun _ => rfl) rfl ?_
        refine zw_iret dX8_loadOf_110 rfl rfl ?_
        exact hq _ h hI fr0
      · refine zw_ic (v := 1) (pc' := 106) dX8_loadOf_105 rfl rfl ?_
        refine zw_goto (tgt := 110) dX8_loadOf_106 rfl ?_
        refine zw_iret dX8_loadOf_110 rfl rfl ?_
        exact hq _ h hI fr0
    · have g24t : (m_bagged1).toInt = (q : Int32).toInt := congrArg Int32.toInt g24
      refine zx_W_ins (pc' := 100) (L' := [some (.inr (.inr (1, 63))), some (.inl q), some (.inl w), some (.inl (((4 + w) + (2 + ((f69_3.getD q.toNatClampNeg 0) / 10))) + 2))]) dX8_loadOf_97 rfl (fun _ => rfl) rfl ?_
      refine zx_W_ins (pc' := 101) dX8_loadOf_100 rfl (fun _ => rfl) rfl ?_
      refine zw_ic (v := 1) (pc' := 102) dX8_loadOf_101 rfl rfl ?_
      refine zw_icmp_ge (tgt := 109) (pc' := 105) dX8_loadOf_102 rfl rfl (fun g26 => ?_) (fun g26 => ?_)
      · refine zx_W_ins (pc' := 110) dX8_loadOf_109 rfl (fun _ => rfl) rfl ?_
        refine zw_iret dX8_loadOf_110 rfl rfl ?_
        exact hq _ h hI fr0
      · refine zw_ic (v := 1) (pc' := 106) dX8_loadOf_105 rfl rfl ?_
        refine zw_goto (tgt := 110) dX8_loadOf_106 rfl ?_
        refine zw_iret dX8_loadOf_110 rfl rfl ?_
        exact hq _ h hI fr0
def zt_171 : zx_MT := (8, yX8_load, cX8_load, 3, (some FieldType.int), 2, 0)
theorem zm_171 : zx_m 171 = zt_171 := rfl
theorem dX8_load_0 : decode cX8_load 0 = .ok (.aload_n 0, 1) := by decide +kernel
theorem dX8_load_1 : decode cX8_load 1 = .ok (.iload_n 1, 1) := by decide +kernel
theorem dX8_load_2 : decode cX8_load 2 = .ok (.invokevirtual 119, 3) := by decide +kernel
theorem dX8_load_5 : decode cX8_load 5 = .ok (.ifCond .ne 9, 3) := by decide +kernel
theorem dX8_load_8 : decode cX8_load 8 = .ok (.aload_n 0, 1) := by decide +kernel
theorem dX8_load_9 : decode cX8_load 9 = .ok (.iconst (-1), 1) := by decide +kernel
theorem dX8_load_10 : decode cX8_load 10 = .ok (.invokevirtual 115, 3) := by decide +kernel
theorem dX8_load_13 : decode cX8_load 13 = .ok (.ireturn, 1) := by decide +kernel
theorem dX8_load_14 : decode cX8_load 14 = .ok (.aload_n 0, 1) := by decide +kernel
theorem dX8_load_15 : decode cX8_load 15 = .ok (.iload_n 2, 1) := by decide +kernel
theorem dX8_load_16 : decode cX8_load 16 = .ok (.invokevirtual 139, 3) := by decide +kernel
theorem dX8_load_19 : decode cX8_load 19 = .ok (.ifCond .eq 17, 3) := by decide +kernel
theorem dX8_load_22 : decode cX8_load 22 = .ok (.aload_n 0, 1) := by decide +kernel
theorem dX8_load_23 : decode cX8_load 23 = .ok (.iload_n 1, 1) := by decide +kernel
theorem dX8_load_24 : decode cX8_load 24 = .ok (.aload_n 0, 1) := by decide +kernel
theorem dX8_load_25 : decode cX8_load 25 = .ok (.getfield 41, 3) := by decide +kernel
theorem dX8_load_28 : decode cX8_load 28 = .ok (.iload_n 2, 1) := by decide +kernel
theorem dX8_load_29 : decode cX8_load 29 = .ok (.iaload, 1) := by decide +kernel
theorem dX8_load_30 : decode cX8_load 30 = .ok (.invokevirtual 126, 3) := by decide +kernel
theorem dX8_load_33 : decode cX8_load 33 = .ok (.goto 9, 3) := by decide +kernel
theorem dX8_load_36 : decode cX8_load 36 = .ok (.aload_n 0, 1) := by decide +kernel
theorem dX8_load_37 : decode cX8_load 37 = .ok (.bipush (-5), 2) := by decide +kernel
theorem dX8_load_39 : decode cX8_load 39 = .ok (.invokevirtual 115, 3) := by decide +kernel
theorem dX8_load_42 : decode cX8_load 42 = .ok (.ireturn, 1) := by decide +kernel
theorem zc_171 {d : Nat} {h : List zx_C} {q : Int32} {w : Int32} {Q : Option zx_V → List zx_C → Prop} (hI : zx_I h)    (hq : ∀ (v : Int32) (h2 : List zx_C), zx_I h2 → (∀ i, i ∉ ([64] : List Nat) → h2[i]? = h[i]?) → Q (some (.inl v)) h2) : zx_M (d + 1) 171 [.inr (.inr (1, 63)), .inl q, .inl w] h Q := by
  have el_m5 : ((-5) : Int32).toInt = -5 := by decide
  have el_m1 : ((-1) : Int32).toInt = -1 := by decide
  obtain ⟨x1, c63_1, m_furlongs1, m_many1, m_bagged1, m_legs1, m_most1, m_nap1, m_on1, m_biscuits1, m_races1, m_worn1, m_here1, m_minutes1, m_seed1, m_fault1, m_base1, m_at1, m_end1, m_number1, m_wrongAt1, m_bestMany1, m_bestHere1, m_bestWorn1, m_bestMinutes1, m_turn1, m_ever1, m_made1, m_ruleHere1, m_ruleMinutes1, m_ruleEver1, m_ran1, m_isKept1, rfl, q0_1, q1_1, q2_1, q3_1, q4_1, q5_1, q6_1, q7_1, q8_1⟩ := zi_g hI 63 (by decide)
  obtain ⟨x2, c65_2, f65_2, rfl, l65_2⟩ := zi_g hI 65 (by decide)
  have fr0 : ∀ i, i ∉ ([64] : List Nat) → h[i]? = h[i]? := fun _ _ => rfl
  refine zx_M_of (Nat.le_of_ble_eq_true rfl) zm_171 (L := [some (.inr (.inr (1, 63))), some (.inl q), some (.inl w)]) rfl ?_
  refine zx_W_ins (pc' := 1) dX8_load_0 rfl (fun _ => rfl) rfl ?_
  refine zx_W_ins (pc' := 2) dX8_load_1 rfl (fun _ => rfl) rfl ?_
  refine zw_iv (k := 128) (pc' := 5) dX8_load_2 rfl rfl rfl rfl c63_1 rfl rfl (zc_128 c63_1 (fun g3 _ => ?_) (fun g3 _ => ?_))
  · show zx_W _ _ _ _ _ _ _ [.inl 1] _ _
    refine zw_if_ne (tgt := 14) (pc' := 8) dX8_load_5 rfl rfl (fun _ => ?_) (fun g => by first | exact absurd rfl g | exact absurd g (by decide))
    refine zx_W_ins (pc' := 15) dX8_load_14 rfl (fun _ => rfl) rfl ?_
    refine zx_W_ins (pc' := 16) dX8_load_15 rfl (fun _ => rfl) rfl ?_
    refine zw_iv (k := 129) (pc' := 19) dX8_load_16 rfl rfl rfl rfl c63_1 rfl rfl (zc_129 c63_1 (fun g5 _ => ?_) (fun g5 _ => ?_))
    · show zx_W _ _ _ _ _ _ _ [.inl 1] _ _
      refine zw_if_eq (tgt := 36) (pc' := 22) dX8_load_19 rfl rfl (fun g => by first | exact absurd rfl g | exact absurd g (by decide)) (fun _ => ?_)
      refine zx_W_ins (pc' := 23) dX8_load_22 rfl (fun _ => rfl) rfl ?_
      refine zx_W_ins (pc' := 24) dX8_load_23 rfl (fun _ => rfl) rfl ?_
      refine zx_W_ins (pc' := 25) dX8_load_24 rfl (fun _ => rfl) rfl ?_
      refine zw_gf (pc' := 28) dX8_load_25 rfl rfl c63_1 rfl ?_
      refine zx_W_ins (pc' := 29) dX8_load_28 rfl (fun _ => rfl) rfl ?_
      refine zw_ial (pc' := 30) dX8_load_29 rfl c65_2 (zi_in (by have := l65_2; omega)) ?_
      refine zw_iv (k := 165) (pc' := 33) dX8_load_30 rfl rfl rfl rfl c63_1 rfl rfl (zc_165 hI (by omega) (fun v7 h8 hI9 fr10 _ => ?_))
      show zx_W _ _ _ _ _ _ _ [.inl v7] _ _
      have fr11 : ∀ i, i ∉ ([64] : List Nat) → h8[i]? = h[i]? := fun i hi => Eq.trans (fr10 i (fun z => hi (by first | exact absurd z List.not_mem_nil | (simp only [List.mem_cons, List.not_mem_nil, or_false] at z ⊢; omega)))) (fr0 i hi)
      have c12 : h8[63]? = some (.inl (8, [.inl m_furlongs1, .inl m_many1, .inl m_bagged1, .inl m_legs1, .inl m_most1, .inl m_nap1, .inl m_on1, .inl m_biscuits1, .inl m_races1, .inl m_worn1, .inl m_here1, .inl m_minutes1, .inl m_seed1, .inl m_fault1, .inr (.inr (1, 64)), .inr (.inr (1, 65)), .inr (.inr (1, 66)), .inr (.inr (1, 67)), .inr (.inr (1, 68)), .inr (.inr (1, 69)), .inr (.inr (1, 70)), .inr (.inr (1, 71)), .inr (.inr (1, 72)), .inr (.inr (1, 73)), .inr (.inr (1, 74)), .inr (.inr (1, 75)), .inr (.inr (1, 76)), .inr (.inr (1, 77)), .inr (.inr (1, 78)), .inl m_base1, .inl m_at1, .inl m_end1, .inl m_number1, .inl m_wrongAt1, .inr (.inr (1, 79)), .inr (.inr (1, 80)), .inr (.inr (1, 81)), .inr (.inr (1, 82)), .inr (.inr (1, 83)), .inr (.inr (1, 84)), .inl m_bestMany1, .inl m_bestHere1, .inl m_bestWorn1, .inl m_bestMinutes1, .inl m_turn1, .inl m_ever1, .inl m_made1, .inl m_ruleHere1, .inl m_ruleMinutes1, .inl m_ruleEver1, .inr (.inr (1, 85)), .inl m_ran1, .inl m_isKept1])) := by rw [fr10 63 (by decide)]; exact c63_1
      have c13 : h8[65]? = some (.inr (0, .inl f65_2)) := by rw [fr10 65 (by decide)]; exact c65_2
      refine zw_goto (tgt := 42) dX8_load_33 rfl ?_
      refine zw_iret dX8_load_42 rfl rfl ?_
      exact hq _ h8 hI9 fr11
    · show zx_W _ _ _ _ _ _ _ [.inl 0] _ _
      refine zw_if_eq (tgt := 36) (pc' := 22) dX8_load_19 rfl rfl (fun _ => ?_) (fun g => by first | exact absurd rfl g | exact absurd g (by decide))
      refine zx_W_ins (pc' := 37) dX8_load_36 rfl (fun _ => rfl) rfl ?_
      refine zw_bi (v := (-5)) (pc' := 39) dX8_load_37 rfl rfl ?_
      refine zw_iv (k := 125) (pc' := 42) dX8_load_39 rfl rfl rfl rfl c63_1 rfl rfl (zc_125 hI (by omega) (fun v15 h16 hI17 fr18 hvv15 _ => ?_))
      show zx_W _ _ _ _ _ _ _ [.inl v15] _ _
      have fr19 : ∀ i, i ∉ ([64] : List Nat) → h16[i]? = h[i]? := fun i hi => Eq.trans (fr18 i (fun z => hi (by first | exact absurd z List.not_mem_nil | (simp only [List.mem_cons, List.not_mem_nil, or_false] at z ⊢; omega)))) (fr0 i hi)
      have c20 : h16[63]? = some (.inl (8, [.inl m_furlongs1, .inl m_many1, .inl m_bagged1, .inl m_legs1, .inl m_most1, .inl m_nap1, .inl m_on1, .inl m_biscuits1, .inl m_races1, .inl m_worn1, .inl m_here1, .inl m_minutes1, .inl m_seed1, .inl m_fault1, .inr (.inr (1, 64)), .inr (.inr (1, 65)), .inr (.inr (1, 66)), .inr (.inr (1, 67)), .inr (.inr (1, 68)), .inr (.inr (1, 69)), .inr (.inr (1, 70)), .inr (.inr (1, 71)), .inr (.inr (1, 72)), .inr (.inr (1, 73)), .inr (.inr (1, 74)), .inr (.inr (1, 75)), .inr (.inr (1, 76)), .inr (.inr (1, 77)), .inr (.inr (1, 78)), .inl m_base1, .inl m_at1, .inl m_end1, .inl m_number1, .inl m_wrongAt1, .inr (.inr (1, 79)), .inr (.inr (1, 80)), .inr (.inr (1, 81)), .inr (.inr (1, 82)), .inr (.inr (1, 83)), .inr (.inr (1, 84)), .inl m_bestMany1, .inl m_bestHere1, .inl m_bestWorn1, .inl m_bestMinutes1, .inl m_turn1, .inl m_ever1, .inl m_made1, .inl m_ruleHere1, .inl m_ruleMinutes1, .inl m_ruleEver1, .inr (.inr (1, 85)), .inl m_ran1, .inl m_isKept1])) := by rw [fr18 63 (by decide)]; exact c63_1
      have c21 : h16[65]? = some (.inr (0, .inl f65_2)) := by rw [fr18 65 (by decide)]; exact c65_2
      obtain ⟨x22, c64_22, f64_22, rfl, l64_22⟩ := zi_g hI17 64 (by decide)
      refine zw_iret dX8_load_42 rfl rfl ?_
      exact hq _ h16 hI17 fr19
  · show zx_W _ _ _ _ _ _ _ [.inl 0] _ _
    refine zw_if_ne (tgt := 14) (pc' := 8) dX8_load_5 rfl rfl (fun g => by first | exact absurd rfl g | exact absurd g (by decide)) (fun _ => ?_)
    refine zx_W_ins (pc' := 9) dX8_load_8 rfl (fun _ => rfl) rfl ?_
    refine zw_ic (v := (-1)) (pc' := 10) dX8_load_9 rfl rfl ?_
    refine zw_iv (k := 125) (pc' := 13) dX8_load_10 rfl rfl rfl rfl c63_1 rfl rfl (zc_125 hI (by omega) (fun v24 h25 hI26 fr27 hvv24 _ => ?_))
    show zx_W _ _ _ _ _ _ _ [.inl v24] _ _
    have fr28 : ∀ i, i ∉ ([64] : List Nat) → h25[i]? = h[i]? := fun i hi => Eq.trans (fr27 i (fun z => hi (by first | exact absurd z List.not_mem_nil | (simp only [List.mem_cons, List.not_mem_nil, or_false] at z ⊢; omega)))) (fr0 i hi)
    have c29 : h25[63]? = some (.inl (8, [.inl m_furlongs1, .inl m_many1, .inl m_bagged1, .inl m_legs1, .inl m_most1, .inl m_nap1, .inl m_on1, .inl m_biscuits1, .inl m_races1, .inl m_worn1, .inl m_here1, .inl m_minutes1, .inl m_seed1, .inl m_fault1, .inr (.inr (1, 64)), .inr (.inr (1, 65)), .inr (.inr (1, 66)), .inr (.inr (1, 67)), .inr (.inr (1, 68)), .inr (.inr (1, 69)), .inr (.inr (1, 70)), .inr (.inr (1, 71)), .inr (.inr (1, 72)), .inr (.inr (1, 73)), .inr (.inr (1, 74)), .inr (.inr (1, 75)), .inr (.inr (1, 76)), .inr (.inr (1, 77)), .inr (.inr (1, 78)), .inl m_base1, .inl m_at1, .inl m_end1, .inl m_number1, .inl m_wrongAt1, .inr (.inr (1, 79)), .inr (.inr (1, 80)), .inr (.inr (1, 81)), .inr (.inr (1, 82)), .inr (.inr (1, 83)), .inr (.inr (1, 84)), .inl m_bestMany1, .inl m_bestHere1, .inl m_bestWorn1, .inl m_bestMinutes1, .inl m_turn1, .inl m_ever1, .inl m_made1, .inl m_ruleHere1, .inl m_ruleMinutes1, .inl m_ruleEver1, .inr (.inr (1, 85)), .inl m_ran1, .inl m_isKept1])) := by rw [fr27 63 (by decide)]; exact c63_1
    have c30 : h25[65]? = some (.inr (0, .inl f65_2)) := by rw [fr27 65 (by decide)]; exact c65_2
    obtain ⟨x31, c64_31, f64_31, rfl, l64_31⟩ := zi_g hI26 64 (by decide)
    refine zw_iret dX8_load_13 rfl rfl ?_
    exact hq _ h25 hI26 fr28
def zt_166 : zx_MT := (8, yX8_mayCarry, cX8_mayCarry, 3, (some FieldType.boolean), 1, 0)
theorem zm_166 : zx_m 166 = zt_166 := rfl
theorem dX8_mayCarry_0 : decode cX8_mayCarry 0 = .ok (.aload_n 0, 1) := by decide +kernel
theorem dX8_mayCarry_1 : decode cX8_mayCarry 1 = .ok (.iload_n 1, 1) := by decide +kernel
theorem dX8_mayCarry_2 : decode cX8_mayCarry 2 = .ok (.invokevirtual 119, 3) := by decide +kernel
theorem dX8_mayCarry_5 : decode cX8_mayCarry 5 = .ok (.ifCond .eq 42, 3) := by decide +kernel
theorem dX8_mayCarry_8 : decode cX8_mayCarry 8 = .ok (.aload_n 0, 1) := by decide +kernel
theorem dX8_mayCarry_9 : decode cX8_mayCarry 9 = .ok (.getfield 207, 3) := by decide +kernel
theorem dX8_mayCarry_12 : decode cX8_mayCarry 12 = .ok (.aload_n 0, 1) := by decide +kernel
theorem dX8_mayCarry_13 : decode cX8_mayCarry 13 = .ok (.getfield 108, 3) := by decide +kernel
theorem dX8_mayCarry_16 : decode cX8_mayCarry 16 = .ok (.if_icmp .ge 31, 3) := by decide +kernel
theorem dX8_mayCarry_19 : decode cX8_mayCarry 19 = .ok (.aload_n 0, 1) := by decide +kernel
theorem dX8_mayCarry_20 : decode cX8_mayCarry 20 = .ok (.getfield 53, 3) := by decide +kernel
theorem dX8_mayCarry_23 : decode cX8_mayCarry 23 = .ok (.iload_n 1, 1) := by decide +kernel
theorem dX8_mayCarry_24 : decode cX8_mayCarry 24 = .ok (.iaload, 1) := by decide +kernel
theorem dX8_mayCarry_25 : decode cX8_mayCarry 25 = .ok (.aload_n 0, 1) := by decide +kernel
theorem dX8_mayCarry_26 : decode cX8_mayCarry 26 = .ok (.iload_n 1, 1) := by decide +kernel
theorem dX8_mayCarry_27 : decode cX8_mayCarry 27 = .ok (.aload_n 0, 1) := by decide +kernel
theorem dX8_mayCarry_28 : decode cX8_mayCarry 28 = .ok (.getfield 41, 3) := by decide +kernel
theorem dX8_mayCarry_31 : decode cX8_mayCarry 31 = .ok (.aload_n 0, 1) := by decide +kernel
theorem dX8_mayCarry_32 : decode cX8_mayCarry 32 = .ok (.getfield 207, 3) := by decide +kernel
theorem dX8_mayCarry_35 : decode cX8_mayCarry 35 = .ok (.iaload, 1) := by decide +kernel
theorem dX8_mayCarry_36 : decode cX8_mayCarry 36 = .ok (.invokevirtual 126, 3) := by decide +kernel
theorem dX8_mayCarry_39 : decode cX8_mayCarry 39 = .ok (.iadd, 1) := by decide +kernel
theorem dX8_mayCarry_40 : decode cX8_mayCarry 40 = .ok (.aload_n 0, 1) := by decide +kernel
theorem dX8_mayCarry_41 : decode cX8_mayCarry 41 = .ok (.getfield 28, 3) := by decide +kernel
theorem dX8_mayCarry_44 : decode cX8_mayCarry 44 = .ok (.if_icmp .le 5, 3) := by decide +kernel
theorem dX8_mayCarry_47 : decode cX8_mayCarry 47 = .ok (.iconst 0, 1) := by decide +kernel
theorem dX8_mayCarry_48 : decode cX8_mayCarry 48 = .ok (.ireturn, 1) := by decide +kernel
theorem dX8_mayCarry_49 : decode cX8_mayCarry 49 = .ok (.aload_n 0, 1) := by decide +kernel
theorem dX8_mayCarry_50 : decode cX8_mayCarry 50 = .ok (.getfield 47, 3) := by decide +kernel
theorem dX8_mayCarry_53 : decode cX8_mayCarry 53 = .ok (.iload_n 1, 1) := by decide +kernel
theorem dX8_mayCarry_54 : decode cX8_mayCarry 54 = .ok (.iaload, 1) := by decide +kernel
theorem dX8_mayCarry_55 : decode cX8_mayCarry 55 = .ok (.istore_n 2, 1) := by decide +kernel
theorem dX8_mayCarry_56 : decode cX8_mayCarry 56 = .ok (.iload_n 2, 1) := by decide +kernel
theorem dX8_mayCarry_57 : decode cX8_mayCarry 57 = .ok (.iconst 2, 1) := by decide +kernel
theorem dX8_mayCarry_58 : decode cX8_mayCarry 58 = .ok (.if_icmp .eq 8, 3) := by decide +kernel
theorem dX8_mayCarry_61 : decode cX8_mayCarry 61 = .ok (.iload_n 2, 1) := by decide +kernel
theorem dX8_mayCarry_62 : decode cX8_mayCarry 62 = .ok (.iconst 5, 1) := by decide +kernel
theorem dX8_mayCarry_63 : decode cX8_mayCarry 63 = .ok (.if_icmp .ne 10, 3) := by decide +kernel
theorem dX8_mayCarry_66 : decode cX8_mayCarry 66 = .ok (.aload_n 0, 1) := by decide +kernel
theorem dX8_mayCarry_67 : decode cX8_mayCarry 67 = .ok (.invokevirtual 122, 3) := by decide +kernel
theorem dX8_mayCarry_70 : decode cX8_mayCarry 70 = .ok (.ifCond .eq 26, 3) := by decide +kernel
theorem dX8_mayCarry_73 : decode cX8_mayCarry 73 = .ok (.iload_n 2, 1) := by decide +kernel
theorem dX8_mayCarry_74 : decode cX8_mayCarry 74 = .ok (.bipush 6, 2) := by decide +kernel
theorem dX8_mayCarry_76 : decode cX8_mayCarry 76 = .ok (.if_icmp .ne 16, 3) := by decide +kernel
theorem dX8_mayCarry_79 : decode cX8_mayCarry 79 = .ok (.aload_n 0, 1) := by decide +kernel
theorem dX8_mayCarry_80 : decode cX8_mayCarry 80 = .ok (.getfield 41, 3) := by decide +kernel
theorem dX8_mayCarry_83 : decode cX8_mayCarry 83 = .ok (.aload_n 0, 1) := by decide +kernel
theorem dX8_mayCarry_84 : decode cX8_mayCarry 84 = .ok (.getfield 207, 3) := by decide +kernel
theorem dX8_mayCarry_87 : decode cX8_mayCarry 87 = .ok (.iaload, 1) := by decide +kernel
theorem dX8_mayCarry_88 : decode cX8_mayCarry 88 = .ok (.iconst 1, 1) := by decide +kernel
theorem dX8_mayCarry_89 : decode cX8_mayCarry 89 = .ok (.if_icmp .gt 7, 3) := by decide +kernel
theorem dX8_mayCarry_92 : decode cX8_mayCarry 92 = .ok (.iconst 1, 1) := by decide +kernel
theorem dX8_mayCarry_93 : decode cX8_mayCarry 93 = .ok (.goto 4, 3) := by decide +kernel
theorem dX8_mayCarry_96 : decode cX8_mayCarry 96 = .ok (.iconst 0, 1) := by decide +kernel
theorem dX8_mayCarry_97 : decode cX8_mayCarry 97 = .ok (.ireturn, 1) := by decide +kernel
theorem zc_166 {d : Nat} {h : List zx_C} {q : Int32} {Q : Option zx_V → List zx_C → Prop} (hI : zx_I h)    (hq : ∀ (v : Int32) (h2 : List zx_C), zx_I h2 → (∀ i, i ∉ ([] : List Nat) → h2[i]? = h[i]?) → (v = 0 ∨ v = 1) → Q (some (.inl v)) h2) : zx_M (d + 1) 166 [.inr (.inr (1, 63)), .inl q] h Q := by
  have el_0 : (0 : Int32).toInt = 0 := by decide
  have el_1 : (1 : Int32).toInt = 1 := by decide
  have el_2 : (2 : Int32).toInt = 2 := by decide
  have el_5 : (5 : Int32).toInt = 5 := by decide
  have el_6 : (6 : Int32).toInt = 6 := by decide
  obtain ⟨x1, c63_1, m_furlongs1, m_many1, m_bagged1, m_legs1, m_most1, m_nap1, m_on1, m_biscuits1, m_races1, m_worn1, m_here1, m_minutes1, m_seed1, m_fault1, m_base1, m_at1, m_end1, m_number1, m_wrongAt1, m_bestMany1, m_bestHere1, m_bestWorn1, m_bestMinutes1, m_turn1, m_ever1, m_made1, m_ruleHere1, m_ruleMinutes1, m_ruleEver1, m_ran1, m_isKept1, rfl, q0_1, q1_1, q2_1, q3_1, q4_1, q5_1, q6_1, q7_1, q8_1⟩ := zi_g hI 63 (by decide)
  obtain ⟨x2, c65_2, f65_2, rfl, l65_2⟩ := zi_g hI 65 (by decide)
  obtain ⟨x3, c67_3, f67_3, rfl, l67_3, b67_3⟩ := zi_g hI 67 (by decide)
  obtain ⟨x4, c69_4, f69_4, rfl, l69_4⟩ := zi_g hI 69 (by decide)
  have fr0 : ∀ i, i ∉ ([] : List Nat) → h[i]? = h[i]? := fun _ _ => rfl
  refine zx_M_of (Nat.le_of_ble_eq_true rfl) zm_166 (L := [some (.inr (.inr (1, 63))), some (.inl q), none]) rfl ?_
  refine zx_W_ins (pc' := 1) dX8_mayCarry_0 rfl (fun _ => rfl) rfl ?_
  refine zx_W_ins (pc' := 2) dX8_mayCarry_1 rfl (fun _ => rfl) rfl ?_
  refine zw_iv (k := 128) (pc' := 5) dX8_mayCarry_2 rfl rfl rfl rfl c63_1 rfl rfl (zc_128 c63_1 (fun g5 _ => ?_) (fun g5 _ => ?_))
  · show zx_W _ _ _ _ _ _ _ [.inl 1] _ _
    refine zw_if_eq (tgt := 47) (pc' := 8) dX8_mayCarry_5 rfl rfl (fun g => by first | exact absurd rfl g | exact absurd g (by decide)) (fun _ => ?_)
    refine zx_W_ins (pc' := 9) dX8_mayCarry_8 rfl (fun _ => rfl) rfl ?_
    refine zw_gf (pc' := 12) dX8_mayCarry_9 rfl rfl c63_1 rfl ?_
    refine zx_W_ins (pc' := 13) dX8_mayCarry_12 rfl (fun _ => rfl) rfl ?_
    refine zw_gf (pc' := 16) dX8_mayCarry_13 rfl rfl c63_1 rfl ?_
    refine zw_icmp_ge (tgt := 47) (pc' := 19) dX8_mayCarry_16 rfl rfl (fun g7 => ?_) (fun g7 => ?_)
    · refine zw_ic (v := 0) (pc' := 48) dX8_mayCarry_47 rfl rfl ?_
      refine zw_iret dX8_mayCarry_48 rfl (by decide) ?_
      exact hq _ h hI fr0 (Or.inl rfl)
    · refine zx_W_ins (pc' := 20) dX8_mayCarry_19 rfl (fun _ => rfl) rfl ?_
      refine zw_gf (pc' := 23) dX8_mayCarry_20 rfl rfl c63_1 rfl ?_
      refine zx_W_ins (pc' := 24) dX8_mayCarry_23 rfl (fun _ => rfl) rfl ?_
      refine zw_ial (pc' := 25) dX8_mayCarry_24 rfl c69_4 (zi_in (by have := l69_4; omega)) ?_
      refine zx_W_ins (pc' := 26) dX8_mayCarry_25 rfl (fun _ => rfl) rfl ?_
      refine zx_W_ins (pc' := 27) dX8_mayCarry_26 rfl (fun _ => rfl) rfl ?_
      refine zx_W_ins (pc' := 28) dX8_mayCarry_27 rfl (fun _ => rfl) rfl ?_
      refine zw_gf (pc' := 31) dX8_mayCarry_28 rfl rfl c63_1 rfl ?_
      refine zx_W_ins (pc' := 32) dX8_mayCarry_31 rfl (fun _ => rfl) rfl ?_
      refine zw_gf (pc' := 35) dX8_mayCarry_32 rfl rfl c63_1 rfl ?_
      refine zw_ial (pc' := 36) dX8_mayCarry_35 rfl c65_2 (zi_in (by have := l65_2; omega)) ?_
      refine zw_iv (k := 165) (pc' := 39) dX8_mayCarry_36 rfl rfl rfl rfl c63_1 rfl rfl (zc_165 hI (by omega) (fun v8 h9 hI10 fr11 _ => ?_))
      show zx_W _ _ _ _ _ _ _ [.inl v8, .inl (f69_4.getD q.toNatClampNeg 0)] _ _
      have fr12 : ∀ i, i ∉ ([] : List Nat) → h9[i]? = h[i]? := fun i hi => Eq.trans (fr11 i (fun z => hi (by first | exact absurd z List.not_mem_nil | (simp only [List.mem_cons, List.not_mem_nil, or_false] at z ⊢; omega)))) (fr0 i hi)
      have c13 : h9[63]? = some (.inl (8, [.inl m_furlongs1, .inl m_many1, .inl m_bagged1, .inl m_legs1, .inl m_most1, .inl m_nap1, .inl m_on1, .inl m_biscuits1, .inl m_races1, .inl m_worn1, .inl m_here1, .inl m_minutes1, .inl m_seed1, .inl m_fault1, .inr (.inr (1, 64)), .inr (.inr (1, 65)), .inr (.inr (1, 66)), .inr (.inr (1, 67)), .inr (.inr (1, 68)), .inr (.inr (1, 69)), .inr (.inr (1, 70)), .inr (.inr (1, 71)), .inr (.inr (1, 72)), .inr (.inr (1, 73)), .inr (.inr (1, 74)), .inr (.inr (1, 75)), .inr (.inr (1, 76)), .inr (.inr (1, 77)), .inr (.inr (1, 78)), .inl m_base1, .inl m_at1, .inl m_end1, .inl m_number1, .inl m_wrongAt1, .inr (.inr (1, 79)), .inr (.inr (1, 80)), .inr (.inr (1, 81)), .inr (.inr (1, 82)), .inr (.inr (1, 83)), .inr (.inr (1, 84)), .inl m_bestMany1, .inl m_bestHere1, .inl m_bestWorn1, .inl m_bestMinutes1, .inl m_turn1, .inl m_ever1, .inl m_made1, .inl m_ruleHere1, .inl m_ruleMinutes1, .inl m_ruleEver1, .inr (.inr (1, 85)), .inl m_ran1, .inl m_isKept1])) := by rw [fr11 63 (by decide)]; exact c63_1
      have c14 : h9[65]? = some (.inr (0, .inl f65_2)) := by rw [fr11 65 (by decide)]; exact c65_2
      have c15 : h9[67]? = some (.inr (0, .inl f67_3)) := by rw [fr11 67 (by decide)]; exact c67_3
      have c16 : h9[69]? = some (.inr (0, .inl f69_4)) := by rw [fr11 69 (by decide)]; exact c69_4
      refine zx_W_ins (pc' := 40) dX8_mayCarry_39 rfl (fun _ => rfl) rfl ?_
      refine zx_W_ins (pc' := 41) dX8_mayCarry_40 rfl (fun _ => rfl) rfl ?_
      refine zw_gf (pc' := 44) dX8_mayCarry_41 rfl rfl c13 rfl ?_
      refine zw_icmp_le (tgt := 49) (pc' := 47) dX8_mayCarry_44 rfl rfl (fun g17 => ?_) (fun g17 => ?_)
      · refine zx_W_ins (pc' := 50) dX8_mayCarry_49 rfl (fun _ => rfl) rfl ?_
        refine zw_gf (pc' := 53) dX8_mayCarry_50 rfl rfl c13 rfl ?_
        refine zx_W_ins (pc' := 54) dX8_mayCarry_53 rfl (fun _ => rfl) rfl ?_
        refine zw_ial (pc' := 55) dX8_mayCarry_54 rfl c15 (zi_in (by have := l67_3; omega)) ?_
        have bb18 := b67_3 q.toNatClampNeg (by have := (zi_in (x := q) (n := 6) (by omega)).2; omega)
        refine zx_W_ins (pc' := 56) (L' := [some (.inr (.inr (1, 63))), some (.inl q), some (.inl (f67_3.getD q.toNatClampNeg 0))]) dX8_mayCarry_55 rfl (fun _ => rfl) rfl ?_
        refine zx_W_ins (pc' := 57) dX8_mayCarry_56 rfl (fun _ => rfl) rfl ?_
        refine zw_ic (v := 2) (pc' := 58) dX8_mayCarry_57 rfl rfl ?_
        refine zw_icmp_eq (tgt := 66) (pc' := 61) dX8_mayCarry_58 rfl rfl (fun g19 => ?_) (fun g19 => ?_)
        · have g19t : ((f67_3.getD q.toNatClampNeg 0)).toInt = (2 : Int32).toInt := congrArg Int32.toInt g19
          refine zx_W_ins (pc' := 67) dX8_mayCarry_66 rfl (fun _ => rfl) rfl ?_
          refine zw_iv (k := 164) (pc' := 70) dX8_mayCarry_67 rfl rfl rfl rfl c13 rfl rfl (zc_164 c13 (fun g20 _ => ?_) (fun g20 _ => ?_))
          · show zx_W _ _ _ _ _ _ _ [.inl 1] _ _
            refine zw_if_eq (tgt := 96) (pc' := 73) dX8_mayCarry_70 rfl rfl (fun g => by first | exact absurd rfl g | exact absurd g (by decide)) (fun _ => ?_)
            refine zx_W_ins (pc' := 74) dX8_mayCarry_73 rfl (fun _ => rfl) rfl ?_
            refine zw_bi (v := 6) (pc' := 76) dX8_mayCarry_74 rfl rfl ?_
            refine zw_icmp_ne (tgt := 92) (pc' := 79) dX8_mayCarry_76 rfl rfl (fun g22 => ?_) (fun g22 => ?_)
            · have g22t : ¬ ((f67_3.getD q.toNatClampNeg 0)).toInt = (6 : Int32).toInt := fun z => g22 (Int32.toInt_inj.mp z)
              refine zw_ic (v := 1) (pc' := 93) dX8_mayCarry_92 rfl rfl ?_
              refine zw_goto (tgt := 97) dX8_mayCarry_93 rfl ?_
              refine zw_iret dX8_mayCarry_97 rfl (by decide) ?_
              exact hq _ h9 hI10 fr12 (Or.inr rfl)
            · have g22t : ((f67_3.getD q.toNatClampNeg 0)).toInt = (6 : Int32).toInt := congrArg Int32.toInt g22
              refine zx_W_ins (pc' := 80) dX8_mayCarry_79 rfl (fun _ => rfl) rfl ?_
              refine zw_gf (pc' := 83) dX8_mayCarry_80 rfl rfl c13 rfl ?_
              refine zx_W_ins (pc' := 84) dX8_mayCarry_83 rfl (fun _ => rfl) rfl ?_
              refine zw_gf (pc' := 87) dX8_mayCarry_84 rfl rfl c13 rfl ?_
              refine zw_ial (pc' := 88) dX8_mayCarry_87 rfl c14 (zi_in (by have := l65_2; omega)) ?_
              refine zw_ic (v := 1) (pc' := 89) dX8_mayCarry_88 rfl rfl ?_
              refine zw_icmp_gt (tgt := 96) (pc' := 92) dX8_mayCarry_89 rfl rfl (fun g23 => ?_) (fun g23 => ?_)
              · refine zw_ic (v := 0) (pc' := 97) dX8_mayCarry_96 rfl rfl ?_
                refine zw_iret dX8_mayCarry_97 rfl (by decide) ?_
                exact hq _ h9 hI10 fr12 (Or.inl rfl)
              · refine zw_ic (v := 1) (pc' := 93) dX8_mayCarry_92 rfl rfl ?_
                refine zw_goto (tgt := 97) dX8_mayCarry_93 rfl ?_
                refine zw_iret dX8_mayCarry_97 rfl (by decide) ?_
                exact hq _ h9 hI10 fr12 (Or.inr rfl)
          · show zx_W _ _ _ _ _ _ _ [.inl 0] _ _
            refine zw_if_eq (tgt := 96) (pc' := 73) dX8_mayCarry_70 rfl rfl (fun _ => ?_) (fun g => by first | exact absurd rfl g | exact absurd g (by decide))
            refine zw_ic (v := 0) (pc' := 97) dX8_mayCarry_96 rfl rfl ?_
            refine zw_iret dX8_mayCarry_97 rfl (by decide) ?_
            exact hq _ h9 hI10 fr12 (Or.inl rfl)
        · have g19t : ¬ ((f67_3.getD q.toNatClampNeg 0)).toInt = (2 : Int32).toInt := fun z => g19 (Int32.toInt_inj.mp z)
          refine zx_W_ins (pc' := 62) dX8_mayCarry_61 rfl (fun _ => rfl) rfl ?_
          refine zw_ic (v := 5) (pc' := 63) dX8_mayCarry_62 rfl rfl ?_
          refine zw_icmp_ne (tgt := 73) (pc' := 66) dX8_mayCarry_63 rfl rfl (fun g25 => ?_) (fun g25 => ?_)
          · have g25t : ¬ ((f67_3.getD q.toNatClampNeg 0)).toInt = (5 : Int32).toInt := fun z => g25 (Int32.toInt_inj.mp z)
            refine zx_W_ins (pc' := 74) dX8_mayCarry_73 rfl (fun _ => rfl) rfl ?_
            refine zw_bi (v := 6) (pc' := 76) dX8_mayCarry_74 rfl rfl ?_
            refine zw_icmp_ne (tgt := 92) (pc' := 79) dX8_mayCarry_76 rfl rfl (fun g26 => ?_) (fun g26 => ?_)
            · have g26t : ¬ ((f67_3.getD q.toNatClampNeg 0)).toInt = (6 : Int32).toInt := fun z => g26 (Int32.toInt_inj.mp z)
              refine zw_ic (v := 1) (pc' := 93) dX8_mayCarry_92 rfl rfl ?_
              refine zw_goto (tgt := 97) dX8_mayCarry_93 rfl ?_
              refine zw_iret dX8_mayCarry_97 rfl (by decide) ?_
              exact hq _ h9 hI10 fr12 (Or.inr rfl)
            · have g26t : ((f67_3.getD q.toNatClampNeg 0)).toInt = (6 : Int32).toInt := congrArg Int32.toInt g26
              refine zx_W_ins (pc' := 80) dX8_mayCarry_79 rfl (fun _ => rfl) rfl ?_
              refine zw_gf (pc' := 83) dX8_mayCarry_80 rfl rfl c13 rfl ?_
              refine zx_W_ins (pc' := 84) dX8_mayCarry_83 rfl (fun _ => rfl) rfl ?_
              refine zw_gf (pc' := 87) dX8_mayCarry_84 rfl rfl c13 rfl ?_
              refine zw_ial (pc' := 88) dX8_mayCarry_87 rfl c14 (zi_in (by have := l65_2; omega)) ?_
              refine zw_ic (v := 1) (pc' := 89) dX8_mayCarry_88 rfl rfl ?_
              refine zw_icmp_gt (tgt := 96) (pc' := 92) dX8_mayCarry_89 rfl rfl (fun g27 => ?_) (fun g27 => ?_)
              · refine zw_ic (v := 0) (pc' := 97) dX8_mayCarry_96 rfl rfl ?_
                refine zw_iret dX8_mayCarry_97 rfl (by decide) ?_
                exact hq _ h9 hI10 fr12 (Or.inl rfl)
              · refine zw_ic (v := 1) (pc' := 93) dX8_mayCarry_92 rfl rfl ?_
                refine zw_goto (tgt := 97) dX8_mayCarry_93 rfl ?_
                refine zw_iret dX8_mayCarry_97 rfl (by decide) ?_
                exact hq _ h9 hI10 fr12 (Or.inr rfl)
          · have g25t : ((f67_3.getD q.toNatClampNeg 0)).toInt = (5 : Int32).toInt := congrArg Int32.toInt g25
            refine zx_W_ins (pc' := 67) dX8_mayCarry_66 rfl (fun _ => rfl) rfl ?_
            refine zw_iv (k := 164) (pc' := 70) dX8_mayCarry_67 rfl rfl rfl rfl c13 rfl rfl (zc_164 c13 (fun g28 _ => ?_) (fun g28 _ => ?_))
            · show zx_W _ _ _ _ _ _ _ [.inl 1] _ _
              refine zw_if_eq (tgt := 96) (pc' := 73) dX8_mayCarry_70 rfl rfl (fun g => by first | exact absurd rfl g | exact absurd g (by decide)) (fun _ => ?_)
              refine zx_W_ins (pc' := 74) dX8_mayCarry_73 rfl (fun _ => rfl) rfl ?_
              refine zw_bi (v := 6) (pc' := 76) dX8_mayCarry_74 rfl rfl ?_
              refine zw_icmp_ne (tgt := 92) (pc' := 79) dX8_mayCarry_76 rfl rfl (fun g30 => ?_) (fun g30 => ?_)
              · have g30t : ¬ ((f67_3.getD q.toNatClampNeg 0)).toInt = (6 : Int32).toInt := fun z => g30 (Int32.toInt_inj.mp z)
                refine zw_ic (v := 1) (pc' := 93) dX8_mayCarry_92 rfl rfl ?_
                refine zw_goto (tgt := 97) dX8_mayCarry_93 rfl ?_
                refine zw_iret dX8_mayCarry_97 rfl (by decide) ?_
                exact hq _ h9 hI10 fr12 (Or.inr rfl)
              · have g30t : ((f67_3.getD q.toNatClampNeg 0)).toInt = (6 : Int32).toInt := congrArg Int32.toInt g30
                refine zx_W_ins (pc' := 80) dX8_mayCarry_79 rfl (fun _ => rfl) rfl ?_
                refine zw_gf (pc' := 83) dX8_mayCarry_80 rfl rfl c13 rfl ?_
                refine zx_W_ins (pc' := 84) dX8_mayCarry_83 rfl (fun _ => rfl) rfl ?_
                refine zw_gf (pc' := 87) dX8_mayCarry_84 rfl rfl c13 rfl ?_
                refine zw_ial (pc' := 88) dX8_mayCarry_87 rfl c14 (zi_in (by have := l65_2; omega)) ?_
                refine zw_ic (v := 1) (pc' := 89) dX8_mayCarry_88 rfl rfl ?_
                refine zw_icmp_gt (tgt := 96) (pc' := 92) dX8_mayCarry_89 rfl rfl (fun g31 => ?_) (fun g31 => ?_)
                · refine zw_ic (v := 0) (pc' := 97) dX8_mayCarry_96 rfl rfl ?_
                  refine zw_iret dX8_mayCarry_97 rfl (by decide) ?_
                  exact hq _ h9 hI10 fr12 (Or.inl rfl)
                · refine zw_ic (v := 1) (pc' := 93) dX8_mayCarry_92 rfl rfl ?_
                  refine zw_goto (tgt := 97) dX8_mayCarry_93 rfl ?_
                  refine zw_iret dX8_mayCarry_97 rfl (by decide) ?_
                  exact hq _ h9 hI10 fr12 (Or.inr rfl)
            · show zx_W _ _ _ _ _ _ _ [.inl 0] _ _
              refine zw_if_eq (tgt := 96) (pc' := 73) dX8_mayCarry_70 rfl rfl (fun _ => ?_) (fun g => by first | exact absurd rfl g | exact absurd g (by decide))
              refine zw_ic (v := 0) (pc' := 97) dX8_mayCarry_96 rfl rfl ?_
              refine zw_iret dX8_mayCarry_97 rfl (by decide) ?_
              exact hq _ h9 hI10 fr12 (Or.inl rfl)
      · refine zw_ic (v := 0) (pc' := 48) dX8_mayCarry_47 rfl rfl ?_
        refine zw_iret dX8_mayCarry_48 rfl (by decide) ?_
        exact hq _ h9 hI10 fr12 (Or.inl rfl)
  · show zx_W _ _ _ _ _ _ _ [.inl 0] _ _
    refine zw_if_eq (tgt := 47) (pc' := 8) dX8_mayCarry_5 rfl rfl (fun _ => ?_) (fun g => by first | exact absurd rfl g | exact absurd g (by decide))
    refine zw_ic (v := 0) (pc' := 48) dX8_mayCarry_47 rfl rfl ?_
    refine zw_iret dX8_mayCarry_48 rfl (by decide) ?_
    exact hq _ h hI fr0 (Or.inl rfl)
def zt_167 : zx_MT := (8, yX8_mayBe, cX8_mayBe, 2, (some FieldType.boolean), 1, 0)
theorem zm_167 : zx_m 167 = zt_167 := rfl
theorem dX8_mayBe_0 : decode cX8_mayBe 0 = .ok (.iload_n 1, 1) := by decide +kernel
theorem dX8_mayBe_1 : decode cX8_mayBe 1 = .ok (.bipush 6, 2) := by decide +kernel
theorem dX8_mayBe_3 : decode cX8_mayBe 3 = .ok (.if_icmp .ge 9, 3) := by decide +kernel
theorem dX8_mayBe_6 : decode cX8_mayBe 6 = .ok (.aload_n 0, 1) := by decide +kernel
theorem dX8_mayBe_7 : decode cX8_mayBe 7 = .ok (.iload_n 1, 1) := by decide +kernel
theorem dX8_mayBe_8 : decode cX8_mayBe 8 = .ok (.invokevirtual 220, 3) := by decide +kernel
theorem dX8_mayBe_11 : decode cX8_mayBe 11 = .ok (.ireturn, 1) := by decide +kernel
theorem dX8_mayBe_12 : decode cX8_mayBe 12 = .ok (.iload_n 1, 1) := by decide +kernel
theorem dX8_mayBe_13 : decode cX8_mayBe 13 = .ok (.bipush 9, 2) := by decide +kernel
theorem dX8_mayBe_15 : decode cX8_mayBe 15 = .ok (.if_icmp .ne 41, 3) := by decide +kernel
theorem dX8_mayBe_18 : decode cX8_mayBe 18 = .ok (.aload_n 0, 1) := by decide +kernel
theorem dX8_mayBe_19 : decode cX8_mayBe 19 = .ok (.getfield 210, 3) := by decide +kernel
theorem dX8_mayBe_22 : decode cX8_mayBe 22 = .ok (.sipush 900, 3) := by decide +kernel
theorem dX8_mayBe_25 : decode cX8_mayBe 25 = .ok (.if_icmp .gt 29, 3) := by decide +kernel
theorem dX8_mayBe_28 : decode cX8_mayBe 28 = .ok (.aload_n 0, 1) := by decide +kernel
theorem dX8_mayBe_29 : decode cX8_mayBe 29 = .ok (.getfield 207, 3) := by decide +kernel
theorem dX8_mayBe_32 : decode cX8_mayBe 32 = .ok (.ifCond .eq 18, 3) := by decide +kernel
theorem dX8_mayBe_35 : decode cX8_mayBe 35 = .ok (.aload_n 0, 1) := by decide +kernel
theorem dX8_mayBe_36 : decode cX8_mayBe 36 = .ok (.getfield 44, 3) := by decide +kernel
theorem dX8_mayBe_39 : decode cX8_mayBe 39 = .ok (.aload_n 0, 1) := by decide +kernel
theorem dX8_mayBe_40 : decode cX8_mayBe 40 = .ok (.getfield 207, 3) := by decide +kernel
theorem dX8_mayBe_43 : decode cX8_mayBe 43 = .ok (.iconst 1, 1) := by decide +kernel
theorem dX8_mayBe_44 : decode cX8_mayBe 44 = .ok (.isub, 1) := by decide +kernel
theorem dX8_mayBe_45 : decode cX8_mayBe 45 = .ok (.iaload, 1) := by decide +kernel
theorem dX8_mayBe_46 : decode cX8_mayBe 46 = .ok (.iconst 1, 1) := by decide +kernel
theorem dX8_mayBe_47 : decode cX8_mayBe 47 = .ok (.if_icmp .ne 7, 3) := by decide +kernel
theorem dX8_mayBe_50 : decode cX8_mayBe 50 = .ok (.iconst 1, 1) := by decide +kernel
theorem dX8_mayBe_51 : decode cX8_mayBe 51 = .ok (.goto 4, 3) := by decide +kernel
theorem dX8_mayBe_54 : decode cX8_mayBe 54 = .ok (.iconst 0, 1) := by decide +kernel
theorem dX8_mayBe_55 : decode cX8_mayBe 55 = .ok (.ireturn, 1) := by decide +kernel
theorem dX8_mayBe_56 : decode cX8_mayBe 56 = .ok (.aload_n 0, 1) := by decide +kernel
theorem dX8_mayBe_57 : decode cX8_mayBe 57 = .ok (.getfield 207, 3) := by decide +kernel
theorem dX8_mayBe_60 : decode cX8_mayBe 60 = .ok (.aload_n 0, 1) := by decide +kernel
theorem dX8_mayBe_61 : decode cX8_mayBe 61 = .ok (.getfield 108, 3) := by decide +kernel
theorem dX8_mayBe_64 : decode cX8_mayBe 64 = .ok (.if_icmp .ge 10, 3) := by decide +kernel
theorem dX8_mayBe_67 : decode cX8_mayBe 67 = .ok (.aload_n 0, 1) := by decide +kernel
theorem dX8_mayBe_68 : decode cX8_mayBe 68 = .ok (.invokevirtual 122, 3) := by decide +kernel
theorem dX8_mayBe_71 : decode cX8_mayBe 71 = .ok (.ifCond .eq 5, 3) := by decide +kernel
theorem dX8_mayBe_74 : decode cX8_mayBe 74 = .ok (.iconst 0, 1) := by decide +kernel
theorem dX8_mayBe_75 : decode cX8_mayBe 75 = .ok (.ireturn, 1) := by decide +kernel
theorem dX8_mayBe_76 : decode cX8_mayBe 76 = .ok (.iload_n 1, 1) := by decide +kernel
theorem dX8_mayBe_77 : decode cX8_mayBe 77 = .ok (.bipush 6, 2) := by decide +kernel
theorem dX8_mayBe_79 : decode cX8_mayBe 79 = .ok (.if_icmp .ne 18, 3) := by decide +kernel
theorem dX8_mayBe_82 : decode cX8_mayBe 82 = .ok (.aload_n 0, 1) := by decide +kernel
theorem dX8_mayBe_83 : decode cX8_mayBe 83 = .ok (.getfield 13, 3) := by decide +kernel
theorem dX8_mayBe_86 : decode cX8_mayBe 86 = .ok (.ifCond .le 7, 3) := by decide +kernel
theorem dX8_mayBe_89 : decode cX8_mayBe 89 = .ok (.iconst 1, 1) := by decide +kernel
theorem dX8_mayBe_90 : decode cX8_mayBe 90 = .ok (.goto 40, 3) := by decide +kernel
theorem dX8_mayBe_93 : decode cX8_mayBe 93 = .ok (.iconst 0, 1) := by decide +kernel
theorem dX8_mayBe_94 : decode cX8_mayBe 94 = .ok (.goto 36, 3) := by decide +kernel
theorem dX8_mayBe_97 : decode cX8_mayBe 97 = .ok (.iload_n 1, 1) := by decide +kernel
theorem dX8_mayBe_98 : decode cX8_mayBe 98 = .ok (.bipush 7, 2) := by decide +kernel
theorem dX8_mayBe_100 : decode cX8_mayBe 100 = .ok (.if_icmp .ne 18, 3) := by decide +kernel
theorem dX8_mayBe_103 : decode cX8_mayBe 103 = .ok (.aload_n 0, 1) := by decide +kernel
theorem dX8_mayBe_104 : decode cX8_mayBe 104 = .ok (.getfield 22, 3) := by decide +kernel
theorem dX8_mayBe_107 : decode cX8_mayBe 107 = .ok (.ifCond .le 7, 3) := by decide +kernel
theorem dX8_mayBe_110 : decode cX8_mayBe 110 = .ok (.iconst 1, 1) := by decide +kernel
theorem dX8_mayBe_111 : decode cX8_mayBe 111 = .ok (.goto 19, 3) := by decide +kernel
theorem dX8_mayBe_114 : decode cX8_mayBe 114 = .ok (.iconst 0, 1) := by decide +kernel
theorem dX8_mayBe_115 : decode cX8_mayBe 115 = .ok (.goto 15, 3) := by decide +kernel
theorem dX8_mayBe_118 : decode cX8_mayBe 118 = .ok (.aload_n 0, 1) := by decide +kernel
theorem dX8_mayBe_119 : decode cX8_mayBe 119 = .ok (.getfield 25, 3) := by decide +kernel
theorem dX8_mayBe_122 : decode cX8_mayBe 122 = .ok (.ifCond .le 7, 3) := by decide +kernel
theorem dX8_mayBe_125 : decode cX8_mayBe 125 = .ok (.iconst 1, 1) := by decide +kernel
theorem dX8_mayBe_126 : decode cX8_mayBe 126 = .ok (.goto 4, 3) := by decide +kernel
theorem dX8_mayBe_129 : decode cX8_mayBe 129 = .ok (.iconst 0, 1) := by decide +kernel
theorem dX8_mayBe_130 : decode cX8_mayBe 130 = .ok (.ireturn, 1) := by decide +kernel
theorem zc_167 {d : Nat} {h : List zx_C} {q : Int32} {Q : Option zx_V → List zx_C → Prop} (hI : zx_I h)    (hq : ∀ (v : Int32) (h2 : List zx_C), zx_I h2 → (∀ i, i ∉ ([] : List Nat) → h2[i]? = h[i]?) → (v = 0 ∨ v = 1) → Q (some (.inl v)) h2) : zx_M (d + 2) 167 [.inr (.inr (1, 63)), .inl q] h Q := by
  have el_0 : (0 : Int32).toInt = 0 := by decide
  have el_1 : (1 : Int32).toInt = 1 := by decide
  have el_6 : (6 : Int32).toInt = 6 := by decide
  have el_7 : (7 : Int32).toInt = 7 := by decide
  have el_9 : (9 : Int32).toInt = 9 := by decide
  have el_900 : (900 : Int32).toInt = 900 := by decide
  obtain ⟨x1, c63_1, m_furlongs1, m_many1, m_bagged1, m_legs1, m_most1, m_nap1, m_on1, m_biscuits1, m_races1, m_worn1, m_here1, m_minutes1, m_seed1, m_fault1, m_base1, m_at1, m_end1, m_number1, m_wrongAt1, m_bestMany1, m_bestHere1, m_bestWorn1, m_bestMinutes1, m_turn1, m_ever1, m_made1, m_ruleHere1, m_ruleMinutes1, m_ruleEver1, m_ran1, m_isKept1, rfl, q0_1, q1_1, q2_1, q3_1, q4_1, q5_1, q6_1, q7_1, q8_1⟩ := zi_g hI 63 (by decide)
  obtain ⟨x2, c66_2, f66_2, rfl, l66_2⟩ := zi_g hI 66 (by decide)
  have fr0 : ∀ i, i ∉ ([] : List Nat) → h[i]? = h[i]? := fun _ _ => rfl
  have e1 : (1 : Int32).toInt = 1 := rfl
  have es := fb_subI (x := m_here1) (y := 1) (by omega) (by omega)
  refine zx_M_of (Nat.le_of_ble_eq_true rfl) zm_167 (L := [some (.inr (.inr (1, 63))), some (.inl q)]) rfl ?_
  refine zx_W_ins (pc' := 1) dX8_mayBe_0 rfl (fun _ => rfl) rfl ?_
  refine zw_bi (v := 6) (pc' := 3) dX8_mayBe_1 rfl rfl ?_
  refine zw_icmp_ge (tgt := 12) (pc' := 6) dX8_mayBe_3 rfl rfl (fun g3 => ?_) (fun g3 => ?_)
  · refine zx_W_ins (pc' := 13) dX8_mayBe_12 rfl (fun _ => rfl) rfl ?_
    refine zw_bi (v := 9) (pc' := 15) dX8_mayBe_13 rfl rfl ?_
    refine zw_icmp_ne (tgt := 56) (pc' := 18) dX8_mayBe_15 rfl rfl (fun g4 => ?_) (fun g4 => ?_)
    · have g4t : ¬ (q).toInt = (9 : Int32).toInt := fun z => g4 (Int32.toInt_inj.mp z)
      refine zx_W_ins (pc' := 57) dX8_mayBe_56 rfl (fun _ => rfl) rfl ?_
      refine zw_gf (pc' := 60) dX8_mayBe_57 rfl rfl c63_1 rfl ?_
      refine zx_W_ins (pc' := 61) dX8_mayBe_60 rfl (fun _ => rfl) rfl ?_
      refine zw_gf (pc' := 64) dX8_mayBe_61 rfl rfl c63_1 rfl ?_
      refine zw_icmp_ge (tgt := 74) (pc' := 67) dX8_mayBe_64 rfl rfl (fun g5 => ?_) (fun g5 => ?_)
      · refine zw_ic (v := 0) (pc' := 75) dX8_mayBe_74 rfl rfl ?_
        refine zw_iret dX8_mayBe_75 rfl (by decide) ?_
        exact hq _ h hI fr0 (Or.inl rfl)
      · refine zx_W_ins (pc' := 68) dX8_mayBe_67 rfl (fun _ => rfl) rfl ?_
        refine zw_iv (k := 164) (pc' := 71) dX8_mayBe_68 rfl rfl rfl rfl c63_1 rfl rfl (zc_164 c63_1 (fun g6 _ => ?_) (fun g6 _ => ?_))
        · show zx_W _ _ _ _ _ _ _ [.inl 1] _ _
          refine zw_if_eq (tgt := 76) (pc' := 74) dX8_mayBe_71 rfl rfl (fun g => by first | exact absurd rfl g | exact absurd g (by decide)) (fun _ => ?_)
          refine zw_ic (v := 0) (pc' := 75) dX8_mayBe_74 rfl rfl ?_
          refine zw_iret dX8_mayBe_75 rfl (by decide) ?_
          exact hq _ h hI fr0 (Or.inl rfl)
        · show zx_W _ _ _ _ _ _ _ [.inl 0] _ _
          refine zw_if_eq (tgt := 76) (pc' := 74) dX8_mayBe_71 rfl rfl (fun _ => ?_) (fun g => by first | exact absurd rfl g | exact absurd g (by decide))
          refine zx_W_ins (pc' := 77) dX8_mayBe_76 rfl (fun _ => rfl) rfl ?_
          refine zw_bi (v := 6) (pc' := 79) dX8_mayBe_77 rfl rfl ?_
          refine zw_icmp_ne (tgt := 97) (pc' := 82) dX8_mayBe_79 rfl rfl (fun g9 => ?_) (fun g9 => ?_)
          · have g9t : ¬ (q).toInt = (6 : Int32).toInt := fun z => g9 (Int32.toInt_inj.mp z)
            refine zx_W_ins (pc' := 98) dX8_mayBe_97 rfl (fun _ => rfl) rfl ?_
            refine zw_bi (v := 7) (pc' := 100) dX8_mayBe_98 rfl rfl ?_
            refine zw_icmp_ne (tgt := 118) (pc' := 103) dX8_mayBe_100 rfl rfl (fun g10 => ?_) (fun g10 => ?_)
            · have g10t : ¬ (q).toInt = (7 : Int32).toInt := fun z => g10 (Int32.toInt_inj.mp z)
              refine zx_W_ins (pc' := 119) dX8_mayBe_118 rfl (fun _ => rfl) rfl ?_
              refine zw_gf (pc' := 122) dX8_mayBe_119 rfl rfl c63_1 rfl ?_
              refine zw_if_le (tgt := 129) (pc' := 125) dX8_mayBe_122 rfl rfl (fun g11 => ?_) (fun g11 => ?_)
              · refine zw_ic (v := 0) (pc' := 130) dX8_mayBe_129 rfl rfl ?_
                refine zw_iret dX8_mayBe_130 rfl (by decide) ?_
                exact hq _ h hI fr0 (Or.inl rfl)
              · refine zw_ic (v := 1) (pc' := 126) dX8_mayBe_125 rfl rfl ?_
                refine zw_goto (tgt := 130) dX8_mayBe_126 rfl ?_
                refine zw_iret dX8_mayBe_130 rfl (by decide) ?_
                exact hq _ h hI fr0 (Or.inr rfl)
            · have g10t : (q).toInt = (7 : Int32).toInt := congrArg Int32.toInt g10
              refine zx_W_ins (pc' := 104) dX8_mayBe_103 rfl (fun _ => rfl) rfl ?_
              refine zw_gf (pc' := 107) dX8_mayBe_104 rfl rfl c63_1 rfl ?_
              refine zw_if_le (tgt := 114) (pc' := 110) dX8_mayBe_107 rfl rfl (fun g12 => ?_) (fun g12 => ?_)
              · refine zw_ic (v := 0) (pc' := 115) dX8_mayBe_114 rfl rfl ?_
                refine zw_goto (tgt := 130) dX8_mayBe_115 rfl ?_
                refine zw_iret dX8_mayBe_130 rfl (by decide) ?_
                exact hq _ h hI fr0 (Or.inl rfl)
              · refine zw_ic (v := 1) (pc' := 111) dX8_mayBe_110 rfl rfl ?_
                refine zw_goto (tgt := 130) dX8_mayBe_111 rfl ?_
                refine zw_iret dX8_mayBe_130 rfl (by decide) ?_
                exact hq _ h hI fr0 (Or.inr rfl)
          · have g9t : (q).toInt = (6 : Int32).toInt := congrArg Int32.toInt g9
            refine zx_W_ins (pc' := 83) dX8_mayBe_82 rfl (fun _ => rfl) rfl ?_
            refine zw_gf (pc' := 86) dX8_mayBe_83 rfl rfl c63_1 rfl ?_
            refine zw_if_le (tgt := 93) (pc' := 89) dX8_mayBe_86 rfl rfl (fun g13 => ?_) (fun g13 => ?_)
            · refine zw_ic (v := 0) (pc' := 94) dX8_mayBe_93 rfl rfl ?_
              refine zw_goto (tgt := 130) dX8_mayBe_94 rfl ?_
              refine zw_iret dX8_mayBe_130 rfl (by decide) ?_
              exact hq _ h hI fr0 (Or.inl rfl)
            · refine zw_ic (v := 1) (pc' := 90) dX8_mayBe_89 rfl rfl ?_
              refine zw_goto (tgt := 130) dX8_mayBe_90 rfl ?_
              refine zw_iret dX8_mayBe_130 rfl (by decide) ?_
              exact hq _ h hI fr0 (Or.inr rfl)
    · have g4t : (q).toInt = (9 : Int32).toInt := congrArg Int32.toInt g4
      refine zx_W_ins (pc' := 19) dX8_mayBe_18 rfl (fun _ => rfl) rfl ?_
      refine zw_gf (pc' := 22) dX8_mayBe_19 rfl rfl c63_1 rfl ?_
      refine zw_si (v := 900) (pc' := 25) dX8_mayBe_22 rfl rfl ?_
      refine zw_icmp_gt (tgt := 54) (pc' := 28) dX8_mayBe_25 rfl rfl (fun g14 => ?_) (fun g14 => ?_)
      · refine zw_ic (v := 0) (pc' := 55) dX8_mayBe_54 rfl rfl ?_
        refine zw_iret dX8_mayBe_55 rfl (by decide) ?_
        exact hq _ h hI fr0 (Or.inl rfl)
      · refine zx_W_ins (pc' := 29) dX8_mayBe_28 rfl (fun _ => rfl) rfl ?_
        refine zw_gf (pc' := 32) dX8_mayBe_29 rfl rfl c63_1 rfl ?_
        refine zw_if_eq (tgt := 50) (pc' := 35) dX8_mayBe_32 rfl rfl (fun g15 => ?_) (fun g15 => ?_)
        · have g15t : (m_here1).toInt = (0 : Int32).toInt := congrArg Int32.toInt g15
          refine zw_ic (v := 1) (pc' := 51) dX8_mayBe_50 rfl rfl ?_
          refine zw_goto (tgt := 55) dX8_mayBe_51 rfl ?_
          refine zw_iret dX8_mayBe_55 rfl (by decide) ?_
          exact hq _ h hI fr0 (Or.inr rfl)
        · have g15t : ¬ (m_here1).toInt = (0 : Int32).toInt := fun z => g15 (Int32.toInt_inj.mp z)
          refine zx_W_ins (pc' := 36) dX8_mayBe_35 rfl (fun _ => rfl) rfl ?_
          refine zw_gf (pc' := 39) dX8_mayBe_36 rfl rfl c63_1 rfl ?_
          refine zx_W_ins (pc' := 40) dX8_mayBe_39 rfl (fun _ => rfl) rfl ?_
          refine zw_gf (pc' := 43) dX8_mayBe_40 rfl rfl c63_1 rfl ?_
          refine zw_ic (v := 1) (pc' := 44) dX8_mayBe_43 rfl rfl ?_
          refine zx_W_ins (pc' := 45) dX8_mayBe_44 rfl (fun _ => rfl) rfl ?_
          refine zw_ial (pc' := 46) dX8_mayBe_45 rfl c66_2 (zi_in (by have := l66_2; omega)) ?_
          refine zw_ic (v := 1) (pc' := 47) dX8_mayBe_46 rfl rfl ?_
          refine zw_icmp_ne (tgt := 54) (pc' := 50) dX8_mayBe_47 rfl rfl (fun g16 => ?_) (fun g16 => ?_)
          · have g16t : ¬ ((f66_2.getD (m_here1 - 1).toNatClampNeg 0)).toInt = (1 : Int32).toInt := fun z => g16 (Int32.toInt_inj.mp z)
            refine zw_ic (v := 0) (pc' := 55) dX8_mayBe_54 rfl rfl ?_
            refine zw_iret dX8_mayBe_55 rfl (by decide) ?_
            exact hq _ h hI fr0 (Or.inl rfl)
          · have g16t : ((f66_2.getD (m_here1 - 1).toNatClampNeg 0)).toInt = (1 : Int32).toInt := congrArg Int32.toInt g16
            refine zw_ic (v := 1) (pc' := 51) dX8_mayBe_50 rfl rfl ?_
            refine zw_goto (tgt := 55) dX8_mayBe_51 rfl ?_
            refine zw_iret dX8_mayBe_55 rfl (by decide) ?_
            exact hq _ h hI fr0 (Or.inr rfl)
  · refine zx_W_ins (pc' := 7) dX8_mayBe_6 rfl (fun _ => rfl) rfl ?_
    refine zx_W_ins (pc' := 8) dX8_mayBe_7 rfl (fun _ => rfl) rfl ?_
    refine zw_iv (k := 166) (pc' := 11) dX8_mayBe_8 rfl rfl rfl rfl c63_1 rfl rfl (zc_166 hI (fun v17 h18 hI19 fr20 hvv17 _ => ?_))
    show zx_W _ _ _ _ _ _ _ [.inl v17] _ _
    have fr21 : ∀ i, i ∉ ([] : List Nat) → h18[i]? = h[i]? := fun i hi => Eq.trans (fr20 i (fun z => hi (by first | exact absurd z List.not_mem_nil | (simp only [List.mem_cons, List.not_mem_nil, or_false] at z ⊢; omega)))) (fr0 i hi)
    have c22 : h18[63]? = some (.inl (8, [.inl m_furlongs1, .inl m_many1, .inl m_bagged1, .inl m_legs1, .inl m_most1, .inl m_nap1, .inl m_on1, .inl m_biscuits1, .inl m_races1, .inl m_worn1, .inl m_here1, .inl m_minutes1, .inl m_seed1, .inl m_fault1, .inr (.inr (1, 64)), .inr (.inr (1, 65)), .inr (.inr (1, 66)), .inr (.inr (1, 67)), .inr (.inr (1, 68)), .inr (.inr (1, 69)), .inr (.inr (1, 70)), .inr (.inr (1, 71)), .inr (.inr (1, 72)), .inr (.inr (1, 73)), .inr (.inr (1, 74)), .inr (.inr (1, 75)), .inr (.inr (1, 76)), .inr (.inr (1, 77)), .inr (.inr (1, 78)), .inl m_base1, .inl m_at1, .inl m_end1, .inl m_number1, .inl m_wrongAt1, .inr (.inr (1, 79)), .inr (.inr (1, 80)), .inr (.inr (1, 81)), .inr (.inr (1, 82)), .inr (.inr (1, 83)), .inr (.inr (1, 84)), .inl m_bestMany1, .inl m_bestHere1, .inl m_bestWorn1, .inl m_bestMinutes1, .inl m_turn1, .inl m_ever1, .inl m_made1, .inl m_ruleHere1, .inl m_ruleMinutes1, .inl m_ruleEver1, .inr (.inr (1, 85)), .inl m_ran1, .inl m_isKept1])) := by rw [fr20 63 (by decide)]; exact c63_1
    have c23 : h18[66]? = some (.inr (0, .inl f66_2)) := by rw [fr20 66 (by decide)]; exact c66_2
    refine zw_iret dX8_mayBe_11 rfl (by rcases hvv17 with e | e <;> rw [e] <;> decide) ?_
    exact hq _ h18 hI19 fr21 hvv17
def zt_172 : zx_MT := (8, yX8_may, cX8_may, 2, (some FieldType.int), 1, 0)
theorem zm_172 : zx_m 172 = zt_172 := rfl
theorem dX8_may_0 : decode cX8_may 0 = .ok (.iload_n 1, 1) := by decide +kernel
theorem dX8_may_1 : decode cX8_may 1 = .ok (.ifCond .lt 25, 3) := by decide +kernel
theorem dX8_may_4 : decode cX8_may 4 = .ok (.iload_n 1, 1) := by decide +kernel
theorem dX8_may_5 : decode cX8_may 5 = .ok (.bipush 9, 2) := by decide +kernel
theorem dX8_may_7 : decode cX8_may 7 = .ok (.if_icmp .gt 19, 3) := by decide +kernel
theorem dX8_may_10 : decode cX8_may 10 = .ok (.aload_n 0, 1) := by decide +kernel
theorem dX8_may_11 : decode cX8_may 11 = .ok (.iload_n 1, 1) := by decide +kernel
theorem dX8_may_12 : decode cX8_may 12 = .ok (.invokevirtual 180, 3) := by decide +kernel
theorem dX8_may_15 : decode cX8_may 15 = .ok (.ifCond .eq 7, 3) := by decide +kernel
theorem dX8_may_18 : decode cX8_may 18 = .ok (.iconst 1, 1) := by decide +kernel
theorem dX8_may_19 : decode cX8_may 19 = .ok (.goto 13, 3) := by decide +kernel
theorem dX8_may_22 : decode cX8_may 22 = .ok (.iconst 0, 1) := by decide +kernel
theorem dX8_may_23 : decode cX8_may 23 = .ok (.goto 9, 3) := by decide +kernel
theorem dX8_may_26 : decode cX8_may 26 = .ok (.aload_n 0, 1) := by decide +kernel
theorem dX8_may_27 : decode cX8_may 27 = .ok (.bipush (-6), 2) := by decide +kernel
theorem dX8_may_29 : decode cX8_may 29 = .ok (.invokevirtual 115, 3) := by decide +kernel
theorem dX8_may_32 : decode cX8_may 32 = .ok (.ireturn, 1) := by decide +kernel
theorem zc_172 {d : Nat} {h : List zx_C} {q : Int32} {Q : Option zx_V → List zx_C → Prop} (hI : zx_I h)    (hq : ∀ (v : Int32) (h2 : List zx_C), zx_I h2 → (∀ i, i ∉ ([64] : List Nat) → h2[i]? = h[i]?) → Q (some (.inl v)) h2) : zx_M (d + 3) 172 [.inr (.inr (1, 63)), .inl q] h Q := by
  have el_m6 : ((-6) : Int32).toInt = -6 := by decide
  have el_0 : (0 : Int32).toInt = 0 := by decide
  have el_1 : (1 : Int32).toInt = 1 := by decide
  have el_9 : (9 : Int32).toInt = 9 := by decide
  obtain ⟨x1, c63_1, m_furlongs1, m_many1, m_bagged1, m_legs1, m_most1, m_nap1, m_on1, m_biscuits1, m_races1, m_worn1, m_here1, m_minutes1, m_seed1, m_fault1, m_base1, m_at1, m_end1, m_number1, m_wrongAt1, m_bestMany1, m_bestHere1, m_bestWorn1, m_bestMinutes1, m_turn1, m_ever1, m_made1, m_ruleHere1, m_ruleMinutes1, m_ruleEver1, m_ran1, m_isKept1, rfl, q0_1, q1_1, q2_1, q3_1, q4_1, q5_1, q6_1, q7_1, q8_1⟩ := zi_g hI 63 (by decide)
  have fr0 : ∀ i, i ∉ ([64] : List Nat) → h[i]? = h[i]? := fun _ _ => rfl
  refine zx_M_of (Nat.le_of_ble_eq_true rfl) zm_172 (L := [some (.inr (.inr (1, 63))), some (.inl q)]) rfl ?_
  refine zx_W_ins (pc' := 1) dX8_may_0 rfl (fun _ => rfl) rfl ?_
  refine zw_if_lt (tgt := 26) (pc' := 4) dX8_may_1 rfl rfl (fun g2 => ?_) (fun g2 => ?_)
  · refine zx_W_ins (pc' := 27) dX8_may_26 rfl (fun _ => rfl) rfl ?_
    refine zw_bi (v := (-6)) (pc' := 29) dX8_may_27 rfl rfl ?_
    refine zw_iv (k := 125) (pc' := 32) dX8_may_29 rfl rfl rfl rfl c63_1 rfl rfl (zc_125 hI (by omega) (fun v3 h4 hI5 fr6 hvv3 _ => ?_))
    show zx_W _ _ _ _ _ _ _ [.inl v3] _ _
    have fr7 : ∀ i, i ∉ ([64] : List Nat) → h4[i]? = h[i]? := fun i hi => Eq.trans (fr6 i (fun z => hi (by first | exact absurd z List.not_mem_nil | (simp only [List.mem_cons, List.not_mem_nil, or_false] at z ⊢; omega)))) (fr0 i hi)
    have c8 : h4[63]? = some (.inl (8, [.inl m_furlongs1, .inl m_many1, .inl m_bagged1, .inl m_legs1, .inl m_most1, .inl m_nap1, .inl m_on1, .inl m_biscuits1, .inl m_races1, .inl m_worn1, .inl m_here1, .inl m_minutes1, .inl m_seed1, .inl m_fault1, .inr (.inr (1, 64)), .inr (.inr (1, 65)), .inr (.inr (1, 66)), .inr (.inr (1, 67)), .inr (.inr (1, 68)), .inr (.inr (1, 69)), .inr (.inr (1, 70)), .inr (.inr (1, 71)), .inr (.inr (1, 72)), .inr (.inr (1, 73)), .inr (.inr (1, 74)), .inr (.inr (1, 75)), .inr (.inr (1, 76)), .inr (.inr (1, 77)), .inr (.inr (1, 78)), .inl m_base1, .inl m_at1, .inl m_end1, .inl m_number1, .inl m_wrongAt1, .inr (.inr (1, 79)), .inr (.inr (1, 80)), .inr (.inr (1, 81)), .inr (.inr (1, 82)), .inr (.inr (1, 83)), .inr (.inr (1, 84)), .inl m_bestMany1, .inl m_bestHere1, .inl m_bestWorn1, .inl m_bestMinutes1, .inl m_turn1, .inl m_ever1, .inl m_made1, .inl m_ruleHere1, .inl m_ruleMinutes1, .inl m_ruleEver1, .inr (.inr (1, 85)), .inl m_ran1, .inl m_isKept1])) := by rw [fr6 63 (by decide)]; exact c63_1
    obtain ⟨x9, c64_9, f64_9, rfl, l64_9⟩ := zi_g hI5 64 (by decide)
    refine zw_iret dX8_may_32 rfl rfl ?_
    exact hq _ h4 hI5 fr7
  · refine zx_W_ins (pc' := 5) dX8_may_4 rfl (fun _ => rfl) rfl ?_
    refine zw_bi (v := 9) (pc' := 7) dX8_may_5 rfl rfl ?_
    refine zw_icmp_gt (tgt := 26) (pc' := 10) dX8_may_7 rfl rfl (fun g10 => ?_) (fun g10 => ?_)
    · refine zx_W_ins (pc' := 27) dX8_may_26 rfl (fun _ => rfl) rfl ?_
      refine zw_bi (v := (-6)) (pc' := 29) dX8_may_27 rfl rfl ?_
      refine zw_iv (k := 125) (pc' := 32) dX8_may_29 rfl rfl rfl rfl c63_1 rfl rfl (zc_125 hI (by omega) (fun v11 h12 hI13 fr14 hvv11 _ => ?_))
      show zx_W _ _ _ _ _ _ _ [.inl v11] _ _
      have fr15 : ∀ i, i ∉ ([64] : List Nat) → h12[i]? = h[i]? := fun i hi => Eq.trans (fr14 i (fun z => hi (by first | exact absurd z List.not_mem_nil | (simp only [List.mem_cons, List.not_mem_nil, or_false] at z ⊢; omega)))) (fr0 i hi)
      have c16 : h12[63]? = some (.inl (8, [.inl m_furlongs1, .inl m_many1, .inl m_bagged1, .inl m_legs1, .inl m_most1, .inl m_nap1, .inl m_on1, .inl m_biscuits1, .inl m_races1, .inl m_worn1, .inl m_here1, .inl m_minutes1, .inl m_seed1, .inl m_fault1, .inr (.inr (1, 64)), .inr (.inr (1, 65)), .inr (.inr (1, 66)), .inr (.inr (1, 67)), .inr (.inr (1, 68)), .inr (.inr (1, 69)), .inr (.inr (1, 70)), .inr (.inr (1, 71)), .inr (.inr (1, 72)), .inr (.inr (1, 73)), .inr (.inr (1, 74)), .inr (.inr (1, 75)), .inr (.inr (1, 76)), .inr (.inr (1, 77)), .inr (.inr (1, 78)), .inl m_base1, .inl m_at1, .inl m_end1, .inl m_number1, .inl m_wrongAt1, .inr (.inr (1, 79)), .inr (.inr (1, 80)), .inr (.inr (1, 81)), .inr (.inr (1, 82)), .inr (.inr (1, 83)), .inr (.inr (1, 84)), .inl m_bestMany1, .inl m_bestHere1, .inl m_bestWorn1, .inl m_bestMinutes1, .inl m_turn1, .inl m_ever1, .inl m_made1, .inl m_ruleHere1, .inl m_ruleMinutes1, .inl m_ruleEver1, .inr (.inr (1, 85)), .inl m_ran1, .inl m_isKept1])) := by rw [fr14 63 (by decide)]; exact c63_1
      obtain ⟨x17, c64_17, f64_17, rfl, l64_17⟩ := zi_g hI13 64 (by decide)
      refine zw_iret dX8_may_32 rfl rfl ?_
      exact hq _ h12 hI13 fr15
    · refine zx_W_ins (pc' := 11) dX8_may_10 rfl (fun _ => rfl) rfl ?_
      refine zx_W_ins (pc' := 12) dX8_may_11 rfl (fun _ => rfl) rfl ?_
      refine zw_iv (k := 167) (pc' := 15) dX8_may_12 rfl rfl rfl rfl c63_1 rfl rfl (zc_167 hI (fun v18 h19 hI20 fr21 hvv18 _ => ?_))
      show zx_W _ _ _ _ _ _ _ [.inl v18] _ _
      have fr22 : ∀ i, i ∉ ([64] : List Nat) → h19[i]? = h[i]? := fun i hi => Eq.trans (fr21 i (fun z => hi (by first | exact absurd z List.not_mem_nil | (simp only [List.mem_cons, List.not_mem_nil, or_false] at z ⊢; omega)))) (fr0 i hi)
      have c23 : h19[63]? = some (.inl (8, [.inl m_furlongs1, .inl m_many1, .inl m_bagged1, .inl m_legs1, .inl m_most1, .inl m_nap1, .inl m_on1, .inl m_biscuits1, .inl m_races1, .inl m_worn1, .inl m_here1, .inl m_minutes1, .inl m_seed1, .inl m_fault1, .inr (.inr (1, 64)), .inr (.inr (1, 65)), .inr (.inr (1, 66)), .inr (.inr (1, 67)), .inr (.inr (1, 68)), .inr (.inr (1, 69)), .inr (.inr (1, 70)), .inr (.inr (1, 71)), .inr (.inr (1, 72)), .inr (.inr (1, 73)), .inr (.inr (1, 74)), .inr (.inr (1, 75)), .inr (.inr (1, 76)), .inr (.inr (1, 77)), .inr (.inr (1, 78)), .inl m_base1, .inl m_at1, .inl m_end1, .inl m_number1, .inl m_wrongAt1, .inr (.inr (1, 79)), .inr (.inr (1, 80)), .inr (.inr (1, 81)), .inr (.inr (1, 82)), .inr (.inr (1, 83)), .inr (.inr (1, 84)), .inl m_bestMany1, .inl m_bestHere1, .inl m_bestWorn1, .inl m_bestMinutes1, .inl m_turn1, .inl m_ever1, .inl m_made1, .inl m_ruleHere1, .inl m_ruleMinutes1, .inl m_ruleEver1, .inr (.inr (1, 85)), .inl m_ran1, .inl m_isKept1])) := by rw [fr21 63 (by decide)]; exact c63_1
      refine zw_if_eq (tgt := 22) (pc' := 18) dX8_may_15 rfl rfl (fun g24 => ?_) (fun g24 => ?_)
      · have g24t : (v18).toInt = (0 : Int32).toInt := congrArg Int32.toInt g24
        refine zw_ic (v := 0) (pc' := 23) dX8_may_22 rfl rfl ?_
        refine zw_goto (tgt := 32) dX8_may_23 rfl ?_
        refine zw_iret dX8_may_32 rfl rfl ?_
        exact hq _ h19 hI20 fr22
      · have g24t : ¬ (v18).toInt = (0 : Int32).toInt := fun z => g24 (Int32.toInt_inj.mp z)
        refine zw_ic (v := 1) (pc' := 19) dX8_may_18 rfl rfl ?_
        refine zw_goto (tgt := 32) dX8_may_19 rfl ?_
        refine zw_iret dX8_may_32 rfl rfl ?_
        exact hq _ h19 hI20 fr22
