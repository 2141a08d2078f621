/-! part 30: the reference: an element read and set: laid by wip/p2/meths.py -/
theorem zc_ix {w q : Int32} (hw : 0 ≤ w.toInt ∧ w.toInt < 8) (hq : 0 ≤ q.toInt ∧ q.toInt < 160) : (160 * w + q).toInt = 160 * w.toInt + q.toInt := by
  have e : (160 : Int32).toInt = 160 := by decide
  have m := fb_mulI (x := 160) (y := w) (by rw [e]; omega) (by rw [e]; omega)
  rw [e] at m
  rw [fb_addI (by rw [m]; omega) (by rw [m]; omega), m]
def zt_133 : zx_MT := (8, yX8_element, cX8_element, 3, (some FieldType.long), 2, 0)
theorem zm_133 : zx_m 133 = zt_133 := rfl
theorem dX8_element_0 : decode cX8_element 0 = .ok (.aload_n 0, 1) := by decide +kernel
theorem dX8_element_1 : decode cX8_element 1 = .ok (.iload_n 1, 1) := by decide +kernel
theorem dX8_element_2 : decode cX8_element 2 = .ok (.invokevirtual 111, 3) := by decide +kernel
theorem dX8_element_5 : decode cX8_element 5 = .ok (.ifCond .eq 42, 3) := by decide +kernel
theorem dX8_element_8 : decode cX8_element 8 = .ok (.aload_n 0, 1) := by decide +kernel
theorem dX8_element_9 : decode cX8_element 9 = .ok (.getfield 56, 3) := by decide +kernel
theorem dX8_element_12 : decode cX8_element 12 = .ok (.iload_n 1, 1) := by decide +kernel
theorem dX8_element_13 : decode cX8_element 13 = .ok (.iaload, 1) := by decide +kernel
theorem dX8_element_14 : decode cX8_element 14 = .ok (.iconst 1, 1) := by decide +kernel
theorem dX8_element_15 : decode cX8_element 15 = .ok (.if_icmp .ne 32, 3) := by decide +kernel
theorem dX8_element_18 : decode cX8_element 18 = .ok (.iload_n 2, 1) := by decide +kernel
theorem dX8_element_19 : decode cX8_element 19 = .ok (.ifCond .lt 28, 3) := by decide +kernel
theorem dX8_element_22 : decode cX8_element 22 = .ok (.iload_n 2, 1) := by decide +kernel
theorem dX8_element_23 : decode cX8_element 23 = .ok (.aload_n 0, 1) := by decide +kernel
theorem dX8_element_24 : decode cX8_element 24 = .ok (.getfield 62, 3) := by decide +kernel
theorem dX8_element_27 : decode cX8_element 27 = .ok (.iload_n 1, 1) := by decide +kernel
theorem dX8_element_28 : decode cX8_element 28 = .ok (.iaload, 1) := by decide +kernel
theorem dX8_element_29 : decode cX8_element 29 = .ok (.if_icmp .ge 18, 3) := by decide +kernel
theorem dX8_element_32 : decode cX8_element 32 = .ok (.aload_n 0, 1) := by decide +kernel
theorem dX8_element_33 : decode cX8_element 33 = .ok (.getfield 68, 3) := by decide +kernel
theorem dX8_element_36 : decode cX8_element 36 = .ok (.sipush 160, 3) := by decide +kernel
theorem dX8_element_39 : decode cX8_element 39 = .ok (.iload_n 1, 1) := by decide +kernel
theorem dX8_element_40 : decode cX8_element 40 = .ok (.imul, 1) := by decide +kernel
theorem dX8_element_41 : decode cX8_element 41 = .ok (.iload_n 2, 1) := by decide +kernel
theorem dX8_element_42 : decode cX8_element 42 = .ok (.iadd, 1) := by decide +kernel
theorem dX8_element_43 : decode cX8_element 43 = .ok (.laload, 1) := by decide +kernel
theorem dX8_element_44 : decode cX8_element 44 = .ok (.goto 4, 3) := by decide +kernel
theorem dX8_element_47 : decode cX8_element 47 = .ok (.lconst 0, 1) := by decide +kernel
theorem dX8_element_48 : decode cX8_element 48 = .ok (.lreturn, 1) := by decide +kernel
theorem zc_133 {d : Nat} {h : List zx_C} {w : Int32} {q : Int32} {Q : Option zx_V → List zx_C → Prop} (hI : zx_I h)    (hq : ∀ (v : Int64) (h2 : List zx_C), zx_I h2 → (∀ i, i ∉ ([] : List Nat) → h2[i]? = h[i]?) → Q (some (.inr (.inl v))) h2) : zx_M (d + 1) 133 [.inr (.inr (1, 63)), .inl w, .inl q] h Q := by
  have el_1 : (1 : Int32).toInt = 1 := by decide
  have el_160 : (160 : Int32).toInt = 160 := by decide
  obtain ⟨x1, c63_1, m_furlongs1, m_many1, m_bagged1, m_legs1, m_most1, m_nap1, m_on1, m_biscuits1, m_races1, m_worn1, m_here1, m_minutes1, m_seed1, m_fault1, m_base1, m_at1, m_end1, m_number1, m_wrongAt1, m_bestMany1, m_bestHere1, m_bestWorn1, m_bestMinutes1, m_turn1, m_ever1, m_made1, m_ruleHere1, m_ruleMinutes1, m_ruleEver1, m_ran1, m_isKept1, rfl, q0_1, q1_1, q2_1, q3_1, q4_1, q5_1, q6_1, q7_1, q8_1⟩ := zi_g hI 63 (by decide)
  obtain ⟨x2, c70_2, f70_2, rfl, l70_2⟩ := zi_g hI 70 (by decide)
  obtain ⟨x3, c72_3, f72_3, rfl, l72_3, b72_3⟩ := zi_g hI 72 (by decide)
  obtain ⟨x4, c74_4, f74_4, rfl, l74_4⟩ := zi_g hI 74 (by decide)
  have fr0 : ∀ i, i ∉ ([] : List Nat) → h[i]? = h[i]? := fun _ _ => rfl
  refine zx_M_of (Nat.le_of_ble_eq_true rfl) zm_133 (L := [some (.inr (.inr (1, 63))), some (.inl w), some (.inl q)]) rfl ?_
  refine zx_W_ins (pc' := 1) dX8_element_0 rfl (fun _ => rfl) rfl ?_
  refine zx_W_ins (pc' := 2) dX8_element_1 rfl (fun _ => rfl) rfl ?_
  refine zw_iv (k := 127) (pc' := 5) dX8_element_2 rfl rfl rfl rfl c63_1 rfl rfl (zc_127 (fun g5 _ => ?_) (fun g5 _ => ?_))
  · show zx_W _ _ _ _ _ _ _ [.inl 1] _ _
    refine zw_if_eq (tgt := 47) (pc' := 8) dX8_element_5 rfl rfl (fun g => by first | exact absurd rfl g | exact absurd g (by decide)) (fun _ => ?_)
    refine zx_W_ins (pc' := 9) dX8_element_8 rfl (fun _ => rfl) rfl ?_
    refine zw_gf (pc' := 12) dX8_element_9 rfl rfl c63_1 rfl ?_
    refine zx_W_ins (pc' := 13) dX8_element_12 rfl (fun _ => rfl) rfl ?_
    refine zw_ial (pc' := 14) dX8_element_13 rfl c70_2 (zi_in (by have := l70_2; omega)) ?_
    refine zw_ic (v := 1) (pc' := 15) dX8_element_14 rfl rfl ?_
    refine zw_icmp_ne (tgt := 47) (pc' := 18) dX8_element_15 rfl rfl (fun g7 => ?_) (fun g7 => ?_)
    · have g7t : ¬ ((f70_2.getD w.toNatClampNeg 0)).toInt = (1 : Int32).toInt := fun z => g7 (Int32.toInt_inj.mp z)
      refine zx_W_ins (pc' := 48) dX8_element_47 rfl (fun _ => rfl) rfl ?_
      refine zw_lret dX8_element_48 rfl ?_
      exact hq _ h hI fr0
    · have g7t : ((f70_2.getD w.toNatClampNeg 0)).toInt = (1 : Int32).toInt := congrArg Int32.toInt g7
      refine zx_W_ins (pc' := 19) dX8_element_18 rfl (fun _ => rfl) rfl ?_
      refine zw_if_lt (tgt := 47) (pc' := 22) dX8_element_19 rfl rfl (fun g8 => ?_) (fun g8 => ?_)
      · refine zx_W_ins (pc' := 48) dX8_element_47 rfl (fun _ => rfl) rfl ?_
        refine zw_lret dX8_element_48 rfl ?_
        exact hq _ h hI fr0
      · refine zx_W_ins (pc' := 23) dX8_element_22 rfl (fun _ => rfl) rfl ?_
        refine zx_W_ins (pc' := 24) dX8_element_23 rfl (fun _ => rfl) rfl ?_
        refine zw_gf (pc' := 27) dX8_element_24 rfl rfl c63_1 rfl ?_
        refine zx_W_ins (pc' := 28) dX8_element_27 rfl (fun _ => rfl) rfl ?_
        refine zw_ial (pc' := 29) dX8_element_28 rfl c72_3 (zi_in (by have := l72_3; omega)) ?_
        have bb9 := b72_3 w.toNatClampNeg (by have := (zi_in (x := w) (n := 8) (by omega)).2; omega)
        refine zw_icmp_ge (tgt := 47) (pc' := 32) dX8_element_29 rfl rfl (fun g10 => ?_) (fun g10 => ?_)
        · refine zx_W_ins (pc' := 48) dX8_element_47 rfl (fun _ => rfl) rfl ?_
          refine zw_lret dX8_element_48 rfl ?_
          exact hq _ h hI fr0
        · refine zx_W_ins (pc' := 33) dX8_element_32 rfl (fun _ => rfl) rfl ?_
          refine zw_gf (pc' := 36) dX8_element_33 rfl rfl c63_1 rfl ?_
          refine zw_si (v := 160) (pc' := 39) dX8_element_36 rfl rfl ?_
          refine zx_W_ins (pc' := 40) dX8_element_39 rfl (fun _ => rfl) rfl ?_
          refine zx_W_ins (pc' := 41) dX8_element_40 rfl (fun _ => rfl) rfl ?_
          refine zx_W_ins (pc' := 42) dX8_element_41 rfl (fun _ => rfl) rfl ?_
          refine zx_W_ins (pc' := 43) dX8_element_42 rfl (fun _ => rfl) rfl ?_
          have ix11 := zc_ix (w := w) (q := q) (by omega) (by omega)
          refine zw_lal (pc' := 44) dX8_element_43 rfl c74_4 (zi_in (by have := l74_4; omega)) ?_
          refine zw_goto (tgt := 48) dX8_element_44 rfl ?_
          refine zw_lret dX8_element_48 rfl ?_
          exact hq _ h hI fr0
  · show zx_W _ _ _ _ _ _ _ [.inl 0] _ _
    refine zw_if_eq (tgt := 47) (pc' := 8) dX8_element_5 rfl rfl (fun _ => ?_) (fun g => by first | exact absurd rfl g | exact absurd g (by decide))
    refine zx_W_ins (pc' := 48) dX8_element_47 rfl (fun _ => rfl) rfl ?_
    refine zw_lret dX8_element_48 rfl ?_
    exact hq _ h hI fr0
def zt_131 : zx_MT := (8, yX8_set, cX8_set, 5, (some FieldType.int), 3, 0)
theorem zm_131 : zx_m 131 = zt_131 := rfl
theorem dX8_set_0 : decode cX8_set 0 = .ok (.aload_n 0, 1) := by decide +kernel
theorem dX8_set_1 : decode cX8_set 1 = .ok (.iload_n 1, 1) := by decide +kernel
theorem dX8_set_2 : decode cX8_set 2 = .ok (.invokevirtual 111, 3) := by decide +kernel
theorem dX8_set_5 : decode cX8_set 5 = .ok (.ifCond .ne 9, 3) := by decide +kernel
theorem dX8_set_8 : decode cX8_set 8 = .ok (.aload_n 0, 1) := by decide +kernel
theorem dX8_set_9 : decode cX8_set 9 = .ok (.iconst (-1), 1) := by decide +kernel
theorem dX8_set_10 : decode cX8_set 10 = .ok (.invokevirtual 115, 3) := by decide +kernel
theorem dX8_set_13 : decode cX8_set 13 = .ok (.ireturn, 1) := by decide +kernel
theorem dX8_set_14 : decode cX8_set 14 = .ok (.aload_n 0, 1) := by decide +kernel
theorem dX8_set_15 : decode cX8_set 15 = .ok (.getfield 56, 3) := by decide +kernel
theorem dX8_set_18 : decode cX8_set 18 = .ok (.iload_n 1, 1) := by decide +kernel
theorem dX8_set_19 : decode cX8_set 19 = .ok (.iaload, 1) := by decide +kernel
theorem dX8_set_20 : decode cX8_set 20 = .ok (.iconst 2, 1) := by decide +kernel
theorem dX8_set_21 : decode cX8_set 21 = .ok (.if_icmp .ne 10, 3) := by decide +kernel
theorem dX8_set_24 : decode cX8_set 24 = .ok (.aload_n 0, 1) := by decide +kernel
theorem dX8_set_25 : decode cX8_set 25 = .ok (.bipush (-2), 2) := by decide +kernel
theorem dX8_set_27 : decode cX8_set 27 = .ok (.invokevirtual 115, 3) := by decide +kernel
theorem dX8_set_30 : decode cX8_set 30 = .ok (.ireturn, 1) := by decide +kernel
theorem dX8_set_31 : decode cX8_set 31 = .ok (.aload_n 0, 1) := by decide +kernel
theorem dX8_set_32 : decode cX8_set 32 = .ok (.getfield 56, 3) := by decide +kernel
theorem dX8_set_35 : decode cX8_set 35 = .ok (.iload_n 1, 1) := by decide +kernel
theorem dX8_set_36 : decode cX8_set 36 = .ok (.iaload, 1) := by decide +kernel
theorem dX8_set_37 : decode cX8_set 37 = .ok (.ifCond .ne 10, 3) := by decide +kernel
theorem dX8_set_40 : decode cX8_set 40 = .ok (.aload_n 0, 1) := by decide +kernel
theorem dX8_set_41 : decode cX8_set 41 = .ok (.bipush (-3), 2) := by decide +kernel
theorem dX8_set_43 : decode cX8_set 43 = .ok (.invokevirtual 115, 3) := by decide +kernel
theorem dX8_set_46 : decode cX8_set 46 = .ok (.ireturn, 1) := by decide +kernel
theorem dX8_set_47 : decode cX8_set 47 = .ok (.iload_n 2, 1) := by decide +kernel
theorem dX8_set_48 : decode cX8_set 48 = .ok (.ifCond .lt 13, 3) := by decide +kernel
theorem dX8_set_51 : decode cX8_set 51 = .ok (.iload_n 2, 1) := by decide +kernel
theorem dX8_set_52 : decode cX8_set 52 = .ok (.aload_n 0, 1) := by decide +kernel
theorem dX8_set_53 : decode cX8_set 53 = .ok (.getfield 62, 3) := by decide +kernel
theorem dX8_set_56 : decode cX8_set 56 = .ok (.iload_n 1, 1) := by decide +kernel
theorem dX8_set_57 : decode cX8_set 57 = .ok (.iaload, 1) := by decide +kernel
theorem dX8_set_58 : decode cX8_set 58 = .ok (.if_icmp .lt 10, 3) := by decide +kernel
theorem dX8_set_61 : decode cX8_set 61 = .ok (.aload_n 0, 1) := by decide +kernel
theorem dX8_set_62 : decode cX8_set 62 = .ok (.bipush (-5), 2) := by decide +kernel
theorem dX8_set_64 : decode cX8_set 64 = .ok (.invokevirtual 115, 3) := by decide +kernel
theorem dX8_set_67 : decode cX8_set 67 = .ok (.ireturn, 1) := by decide +kernel
theorem dX8_set_68 : decode cX8_set 68 = .ok (.aload_n 0, 1) := by decide +kernel
theorem dX8_set_69 : decode cX8_set 69 = .ok (.getfield 68, 3) := by decide +kernel
theorem dX8_set_72 : decode cX8_set 72 = .ok (.sipush 160, 3) := by decide +kernel
theorem dX8_set_75 : decode cX8_set 75 = .ok (.iload_n 1, 1) := by decide +kernel
theorem dX8_set_76 : decode cX8_set 76 = .ok (.imul, 1) := by decide +kernel
theorem dX8_set_77 : decode cX8_set 77 = .ok (.iload_n 2, 1) := by decide +kernel
theorem dX8_set_78 : decode cX8_set 78 = .ok (.iadd, 1) := by decide +kernel
theorem dX8_set_79 : decode cX8_set 79 = .ok (.aload_n 0, 1) := by decide +kernel
theorem dX8_set_80 : decode cX8_set 80 = .ok (.getfield 59, 3) := by decide +kernel
theorem dX8_set_83 : decode cX8_set 83 = .ok (.iload_n 1, 1) := by decide +kernel
theorem dX8_set_84 : decode cX8_set 84 = .ok (.iaload, 1) := by decide +kernel
theorem dX8_set_85 : decode cX8_set 85 = .ok (.ifCond .ne 10, 3) := by decide +kernel
theorem dX8_set_88 : decode cX8_set 88 = .ok (.lload_n 3, 1) := by decide +kernel
theorem dX8_set_89 : decode cX8_set 89 = .ok (.l2i, 1) := by decide +kernel
theorem dX8_set_90 : decode cX8_set 90 = .ok (.i2b, 1) := by decide +kernel
theorem dX8_set_91 : decode cX8_set 91 = .ok (.i2l, 1) := by decide +kernel
theorem dX8_set_92 : decode cX8_set 92 = .ok (.goto 37, 3) := by decide +kernel
theorem dX8_set_95 : decode cX8_set 95 = .ok (.aload_n 0, 1) := by decide +kernel
theorem dX8_set_96 : decode cX8_set 96 = .ok (.getfield 59, 3) := by decide +kernel
theorem dX8_set_99 : decode cX8_set 99 = .ok (.iload_n 1, 1) := by decide +kernel
theorem dX8_set_100 : decode cX8_set 100 = .ok (.iaload, 1) := by decide +kernel
theorem dX8_set_101 : decode cX8_set 101 = .ok (.iconst 1, 1) := by decide +kernel
theorem dX8_set_102 : decode cX8_set 102 = .ok (.if_icmp .ne 10, 3) := by decide +kernel
theorem dX8_set_105 : decode cX8_set 105 = .ok (.lload_n 3, 1) := by decide +kernel
theorem dX8_set_106 : decode cX8_set 106 = .ok (.l2i, 1) := by decide +kernel
theorem dX8_set_107 : decode cX8_set 107 = .ok (.i2s, 1) := by decide +kernel
theorem dX8_set_108 : decode cX8_set 108 = .ok (.i2l, 1) := by decide +kernel
theorem dX8_set_109 : decode cX8_set 109 = .ok (.goto 20, 3) := by decide +kernel
theorem dX8_set_112 : decode cX8_set 112 = .ok (.aload_n 0, 1) := by decide +kernel
theorem dX8_set_113 : decode cX8_set 113 = .ok (.getfield 59, 3) := by decide +kernel
theorem dX8_set_116 : decode cX8_set 116 = .ok (.iload_n 1, 1) := by decide +kernel
theorem dX8_set_117 : decode cX8_set 117 = .ok (.iaload, 1) := by decide +kernel
theorem dX8_set_118 : decode cX8_set 118 = .ok (.iconst 2, 1) := by decide +kernel
theorem dX8_set_119 : decode cX8_set 119 = .ok (.if_icmp .ne 9, 3) := by decide +kernel
theorem dX8_set_122 : decode cX8_set 122 = .ok (.lload_n 3, 1) := by decide +kernel
theorem dX8_set_123 : decode cX8_set 123 = .ok (.l2i, 1) := by decide +kernel
theorem dX8_set_124 : decode cX8_set 124 = .ok (.i2l, 1) := by decide +kernel
theorem dX8_set_125 : decode cX8_set 125 = .ok (.goto 4, 3) := by decide +kernel
theorem dX8_set_128 : decode cX8_set 128 = .ok (.lload_n 3, 1) := by decide +kernel
theorem dX8_set_129 : decode cX8_set 129 = .ok (.lastore, 1) := by decide +kernel
theorem dX8_set_130 : decode cX8_set 130 = .ok (.iconst 1, 1) := by decide +kernel
theorem dX8_set_131 : decode cX8_set 131 = .ok (.ireturn, 1) := by decide +kernel
theorem zc_131 {d : Nat} {h : List zx_C} {w : Int32} {q : Int32} {x : Int64} {Q : Option zx_V → List zx_C → Prop} (hI : zx_I h)    (hq : ∀ (v : Int32) (h2 : List zx_C), zx_I h2 → (∀ i, i ∉ ([64, 74] : List Nat) → h2[i]? = h[i]?) → Q (some (.inl v)) h2) : zx_M (d + 1) 131 [.inr (.inr (1, 63)), .inl w, .inl q, .inr (.inl x)] h Q := by
  have el_m5 : ((-5) : Int32).toInt = -5 := by decide
  have el_m3 : ((-3) : Int32).toInt = -3 := by decide
  have el_m2 : ((-2) : Int32).toInt = -2 := by decide
  have el_m1 : ((-1) : Int32).toInt = -1 := by decide
  have el_0 : (0 : Int32).toInt = 0 := by decide
  have el_1 : (1 : Int32).toInt = 1 := by decide
  have el_2 : (2 : Int32).toInt = 2 := by decide
  have el_160 : (160 : Int32).toInt = 160 := by decide
  obtain ⟨x1, c63_1, m_furlongs1, m_many1, m_bagged1, m_legs1, m_most1, m_nap1, m_on1, m_biscuits1, m_races1, m_worn1, m_here1, m_minutes1, m_seed1, m_fault1, m_base1, m_at1, m_end1, m_number1, m_wrongAt1, m_bestMany1, m_bestHere1, m_bestWorn1, m_bestMinutes1, m_turn1, m_ever1, m_made1, m_ruleHere1, m_ruleMinutes1, m_ruleEver1, m_ran1, m_isKept1, rfl, q0_1, q1_1, q2_1, q3_1, q4_1, q5_1, q6_1, q7_1, q8_1⟩ := zi_g hI 63 (by decide)
  obtain ⟨x2, c70_2, f70_2, rfl, l70_2⟩ := zi_g hI 70 (by decide)
  obtain ⟨x3, c71_3, f71_3, rfl, l71_3⟩ := zi_g hI 71 (by decide)
  obtain ⟨x4, c72_4, f72_4, rfl, l72_4, b72_4⟩ := zi_g hI 72 (by decide)
  obtain ⟨x5, c74_5, f74_5, rfl, l74_5⟩ := zi_g hI 74 (by decide)
  have fr0 : ∀ i, i ∉ ([64, 74] : List Nat) → h[i]? = h[i]? := fun _ _ => rfl
  refine zx_M_of (Nat.le_of_ble_eq_true rfl) zm_131 (L := [some (.inr (.inr (1, 63))), some (.inl w), some (.inl q), some (.inr (.inl x)), none]) rfl ?_
  refine zx_W_ins (pc' := 1) dX8_set_0 rfl (fun _ => rfl) rfl ?_
  refine zx_W_ins (pc' := 2) dX8_set_1 rfl (fun _ => rfl) rfl ?_
  refine zw_iv (k := 127) (pc' := 5) dX8_set_2 rfl rfl rfl rfl c63_1 rfl rfl (zc_127 (fun g6 _ => ?_) (fun g6 _ => ?_))
  · show zx_W _ _ _ _ _ _ _ [.inl 1] _ _
    refine zw_if_ne (tgt := 14) (pc' := 8) dX8_set_5 rfl rfl (fun _ => ?_) (fun g => by first | exact absurd rfl g | exact absurd g (by decide))
    refine zx_W_ins (pc' := 15) dX8_set_14 rfl (fun _ => rfl) rfl ?_
    refine zw_gf (pc' := 18) dX8_set_15 rfl rfl c63_1 rfl ?_
    refine zx_W_ins (pc' := 19) dX8_set_18 rfl (fun _ => rfl) rfl ?_
    refine zw_ial (pc' := 20) dX8_set_19 rfl c70_2 (zi_in (by have := l70_2; omega)) ?_
    refine zw_ic (v := 2) (pc' := 21) dX8_set_20 rfl rfl ?_
    refine zw_icmp_ne (tgt := 31) (pc' := 24) dX8_set_21 rfl rfl (fun g8 => ?_) (fun g8 => ?_)
    · have g8t : ¬ ((f70_2.getD w.toNatClampNeg 0)).toInt = (2 : Int32).toInt := fun z => g8 (Int32.toInt_inj.mp z)
      refine zx_W_ins (pc' := 32) dX8_set_31 rfl (fun _ => rfl) rfl ?_
      refine zw_gf (pc' := 35) dX8_set_32 rfl rfl c63_1 rfl ?_
      refine zx_W_ins (pc' := 36) dX8_set_35 rfl (fun _ => rfl) rfl ?_
      refine zw_ial (pc' := 37) dX8_set_36 rfl c70_2 (zi_in (by have := l70_2; omega)) ?_
      refine zw_if_ne (tgt := 47) (pc' := 40) dX8_set_37 rfl rfl (fun g9 => ?_) (fun g9 => ?_)
      · have g9t : ¬ ((f70_2.getD w.toNatClampNeg 0)).toInt = (0 : Int32).toInt := fun z => g9 (Int32.toInt_inj.mp z)
        refine zx_W_ins (pc' := 48) dX8_set_47 rfl (fun _ => rfl) rfl ?_
        refine zw_if_lt (tgt := 61) (pc' := 51) dX8_set_48 rfl rfl (fun g10 => ?_) (fun g10 => ?_)
        · refine zx_W_ins (pc' := 62) dX8_set_61 rfl (fun _ => rfl) rfl ?_
          refine zw_bi (v := (-5)) (pc' := 64) dX8_set_62 rfl rfl ?_
          refine zw_iv (k := 125) (pc' := 67) dX8_set_64 rfl rfl rfl rfl c63_1 rfl rfl (zc_125 hI (by omega) (fun v11 h12 hI13 fr14 hvv11 _ => ?_))
          show zx_W _ _ _ _ _ _ _ [.inl v11] _ _
          have fr15 : ∀ i, i ∉ ([64, 74] : List Nat) → h12[i]? = h[i]? := fun i hi => Eq.trans (fr14 i (fun z => hi (by first | exact absurd z List.not_mem_nil | (simp only [List.mem_cons, List.not_mem_nil, or_false] at z ⊢; omega)))) (fr0 i hi)
          have c16 : h12[63]? = some (.inl (8, [.inl m_furlongs1, .inl m_many1, .inl m_bagged1, .inl m_legs1, .inl m_most1, .inl m_nap1, .inl m_on1, .inl m_biscuits1, .inl m_races1, .inl m_worn1, .inl m_here1, .inl m_minutes1, .inl m_seed1, .inl m_fault1, .inr (.inr (1, 64)), .inr (.inr (1, 65)), .inr (.inr (1, 66)), .inr (.inr (1, 67)), .inr (.inr (1, 68)), .inr (.inr (1, 69)), .inr (.inr (1, 70)), .inr (.inr (1, 71)), .inr (.inr (1, 72)), .inr (.inr (1, 73)), .inr (.inr (1, 74)), .inr (.inr (1, 75)), .inr (.inr (1, 76)), .inr (.inr (1, 77)), .inr (.inr (1, 78)), .inl m_base1, .inl m_at1, .inl m_end1, .inl m_number1, .inl m_wrongAt1, .inr (.inr (1, 79)), .inr (.inr (1, 80)), .inr (.inr (1, 81)), .inr (.inr (1, 82)), .inr (.inr (1, 83)), .inr (.inr (1, 84)), .inl m_bestMany1, .inl m_bestHere1, .inl m_bestWorn1, .inl m_bestMinutes1, .inl m_turn1, .inl m_ever1, .inl m_made1, .inl m_ruleHere1, .inl m_ruleMinutes1, .inl m_ruleEver1, .inr (.inr (1, 85)), .inl m_ran1, .inl m_isKept1])) := by rw [fr14 63 (by decide)]; exact c63_1
          have c17 : h12[70]? = some (.inr (0, .inl f70_2)) := by rw [fr14 70 (by decide)]; exact c70_2
          have c18 : h12[71]? = some (.inr (0, .inl f71_3)) := by rw [fr14 71 (by decide)]; exact c71_3
          have c19 : h12[72]? = some (.inr (0, .inl f72_4)) := by rw [fr14 72 (by decide)]; exact c72_4
          have c20 : h12[74]? = some (.inr (1, .inr (.inl f74_5))) := by rw [fr14 74 (by decide)]; exact c74_5
          obtain ⟨x21, c64_21, f64_21, rfl, l64_21⟩ := zi_g hI13 64 (by decide)
          refine zw_iret dX8_set_67 rfl rfl ?_
          exact hq _ h12 hI13 fr15
        · refine zx_W_ins (pc' := 52) dX8_set_51 rfl (fun _ => rfl) rfl ?_
          refine zx_W_ins (pc' := 53) dX8_set_52 rfl (fun _ => rfl) rfl ?_
          refine zw_gf (pc' := 56) dX8_set_53 rfl rfl c63_1 rfl ?_
          refine zx_W_ins (pc' := 57) dX8_set_56 rfl (fun _ => rfl) rfl ?_
          refine zw_ial (pc' := 58) dX8_set_57 rfl c72_4 (zi_in (by have := l72_4; omega)) ?_
          have bb22 := b72_4 w.toNatClampNeg (by have := (zi_in (x := w) (n := 8) (by omega)).2; omega)
          refine zw_icmp_lt (tgt := 68) (pc' := 61) dX8_set_58 rfl rfl (fun g23 => ?_) (fun g23 => ?_)
          · refine zx_W_ins (pc' := 69) dX8_set_68 rfl (fun _ => rfl) rfl ?_
            refine zw_gf (pc' := 72) dX8_set_69 rfl rfl c63_1 rfl ?_
            refine zw_si (v := 160) (pc' := 75) dX8_set_72 rfl rfl ?_
            refine zx_W_ins (pc' := 76) dX8_set_75 rfl (fun _ => rfl) rfl ?_
            refine zx_W_ins (pc' := 77) dX8_set_76 rfl (fun _ => rfl) rfl ?_
            refine zx_W_ins (pc' := 78) dX8_set_77 rfl (fun _ => rfl) rfl ?_
            refine zx_W_ins (pc' := 79) dX8_set_78 rfl (fun _ => rfl) rfl ?_
            refine zx_W_ins (pc' := 80) dX8_set_79 rfl (fun _ => rfl) rfl ?_
            refine zw_gf (pc' := 83) dX8_set_80 rfl rfl c63_1 rfl ?_
            refine zx_W_ins (pc' := 84) dX8_set_83 rfl (fun _ => rfl) rfl ?_
            refine zw_ial (pc' := 85) dX8_set_84 rfl c71_3 (zi_in (by have := l71_3; omega)) ?_
            refine zw_if_ne (tgt := 95) (pc' := 88) dX8_set_85 rfl rfl (fun g24 => ?_) (fun g24 => ?_)
            · have g24t : ¬ ((f71_3.getD w.toNatClampNeg 0)).toInt = (0 : Int32).toInt := fun z => g24 (Int32.toInt_inj.mp z)
              refine zx_W_ins (pc' := 96) dX8_set_95 rfl (fun _ => rfl) rfl ?_
              refine zw_gf (pc' := 99) dX8_set_96 rfl rfl c63_1 rfl ?_
              refine zx_W_ins (pc' := 100) dX8_set_99 rfl (fun _ => rfl) rfl ?_
              refine zw_ial (pc' := 101) dX8_set_100 rfl c71_3 (zi_in (by have := l71_3; omega)) ?_
              refine zw_ic (v := 1) (pc' := 102) dX8_set_101 rfl rfl ?_
              refine zw_icmp_ne (tgt := 112) (pc' := 105) dX8_set_102 rfl rfl (fun g25 => ?_) (fun g25 => ?_)
              · have g25t : ¬ ((f71_3.getD w.toNatClampNeg 0)).toInt = (1 : Int32).toInt := fun z => g25 (Int32.toInt_inj.mp z)
                refine zx_W_ins (pc' := 113) dX8_set_112 rfl (fun _ => rfl) rfl ?_
                refine zw_gf (pc' := 116) dX8_set_113 rfl rfl c63_1 rfl ?_
                refine zx_W_ins (pc' := 117) dX8_set_116 rfl (fun _ => rfl) rfl ?_
                refine zw_ial (pc' := 118) dX8_set_117 rfl c71_3 (zi_in (by have := l71_3; omega)) ?_
                refine zw_ic (v := 2) (pc' := 119) dX8_set_118 rfl rfl ?_
                refine zw_icmp_ne (tgt := 128) (pc' := 122) dX8_set_119 rfl rfl (fun g26 => ?_) (fun g26 => ?_)
                · have g26t : ¬ ((f71_3.getD w.toNatClampNeg 0)).toInt = (2 : Int32).toInt := fun z => g26 (Int32.toInt_inj.mp z)
                  refine zx_W_ins (pc' := 129) dX8_set_128 rfl (fun _ => rfl) rfl ?_
                  have ix27 := zc_ix (w := w) (q := q) (by omega) (by omega)
                  refine zw_las (pc' := 130) dX8_set_129 rfl c74_5 (zi_in (by have := l74_5; omega)) ?_
                  obtain ⟨h28, e29⟩ : ∃ z, z = h.set 74 (.inr (1, .inr (.inl (f74_5.set ((160 * w) + q).toNatClampNeg x)))) := ⟨_, rfl⟩
                  rw [← e29]
                  have c30 : h28[63]? = some (.inl (8, [.inl m_furlongs1, .inl m_many1, .inl m_bagged1, .inl m_legs1, .inl m_most1, .inl m_nap1, .inl m_on1, .inl m_biscuits1, .inl m_races1, .inl m_worn1, .inl m_here1, .inl m_minutes1, .inl m_seed1, .inl m_fault1, .inr (.inr (1, 64)), .inr (.inr (1, 65)), .inr (.inr (1, 66)), .inr (.inr (1, 67)), .inr (.inr (1, 68)), .inr (.inr (1, 69)), .inr (.inr (1, 70)), .inr (.inr (1, 71)), .inr (.inr (1, 72)), .inr (.inr (1, 73)), .inr (.inr (1, 74)), .inr (.inr (1, 75)), .inr (.inr (1, 76)), .inr (.inr (1, 77)), .inr (.inr (1, 78)), .inl m_base1, .inl m_at1, .inl m_end1, .inl m_number1, .inl m_wrongAt1, .inr (.inr (1, 79)), .inr (.inr (1, 80)), .inr (.inr (1, 81)), .inr (.inr (1, 82)), .inr (.inr (1, 83)), .inr (.inr (1, 84)), .inl m_bestMany1, .inl m_bestHere1, .inl m_bestWorn1, .inl m_bestMinutes1, .inl m_turn1, .inl m_ever1, .inl m_made1, .inl m_ruleHere1, .inl m_ruleMinutes1, .inl m_ruleEver1, .inr (.inr (1, 85)), .inl m_ran1, .inl m_isKept1])) := by rw [e29, List.getElem?_set_ne (by first | decide | omega)]; exact c63_1
                  have c31 : h28[70]? = some (.inr (0, .inl f70_2)) := by rw [e29, List.getElem?_set_ne (by first | decide | omega)]; exact c70_2
                  have c32 : h28[71]? = some (.inr (0, .inl f71_3)) := by rw [e29, List.getElem?_set_ne (by first | decide | omega)]; exact c71_3
                  have c33 : h28[72]? = some (.inr (0, .inl f72_4)) := by rw [e29, List.getElem?_set_ne (by first | decide | omega)]; exact c72_4
                  have c34 : h28[74]? = some (.inr (1, .inr (.inl (f74_5.set ((160 * w) + q).toNatClampNeg x)))) := by rw [e29, List.getElem?_set_self (List.getElem?_eq_some_iff.mp c74_5).1]
                  have hI35 : zx_I h28 := by rw [e29]; exact zi_set hI (show zc_lrow 1280 _ from ⟨_, rfl, by rw [List.length_set]; exact l74_5⟩) (by decide) (by decide)
                  have l36 := (List.length_set (as := f74_5) (i := ((160 * w) + q).toNatClampNeg) (a := x)).trans l74_5
                  have fr37 : ∀ i, i ∉ ([64, 74] : List Nat) → h28[i]? = h[i]? := fun i hi => Eq.trans (b := h[i]?) (by rw [e29, List.getElem?_set_ne (fun z => hi (by rw [← z]; decide))]) (fr0 i hi)
                  refine zw_ic (v := 1) (pc' := 131) dX8_set_130 rfl rfl ?_
                  refine zw_iret dX8_set_131 rfl rfl ?_
                  exact hq _ h28 hI35 fr37
                · have g26t : ((f71_3.getD w.toNatClampNeg 0)).toInt = (2 : Int32).toInt := congrArg Int32.toInt g26
                  refine zx_W_ins (pc' := 123) dX8_set_122 rfl (fun _ => rfl) rfl ?_
                  refine zx_W_ins (pc' := 124) dX8_set_123 rfl (fun _ => rfl) rfl ?_
                  refine zx_W_ins (pc' := 125) dX8_set_124 rfl (fun _ => rfl) rfl ?_
                  refine zw_goto (tgt := 129) dX8_set_125 rfl ?_
                  have ix38 := zc_ix (w := w) (q := q) (by omega) (by omega)
                  refine zw_las (pc' := 130) dX8_set_129 rfl c74_5 (zi_in (by have := l74_5; omega)) ?_
                  obtain ⟨h39, e40⟩ : ∃ z, z = h.set 74 (.inr (1, .inr (.inl (f74_5.set ((160 * w) + q).toNatClampNeg x.toInt32.toInt64)))) := ⟨_, rfl⟩
                  rw [← e40]
                  have c41 : h39[63]? = some (.inl (8, [.inl m_furlongs1, .inl m_many1, .inl m_bagged1, .inl m_legs1, .inl m_most1, .inl m_nap1, .inl m_on1, .inl m_biscuits1, .inl m_races1, .inl m_worn1, .inl m_here1, .inl m_minutes1, .inl m_seed1, .inl m_fault1, .inr (.inr (1, 64)), .inr (.inr (1, 65)), .inr (.inr (1, 66)), .inr (.inr (1, 67)), .inr (.inr (1, 68)), .inr (.inr (1, 69)), .inr (.inr (1, 70)), .inr (.inr (1, 71)), .inr (.inr (1, 72)), .inr (.inr (1, 73)), .inr (.inr (1, 74)), .inr (.inr (1, 75)), .inr (.inr (1, 76)), .inr (.inr (1, 77)), .inr (.inr (1, 78)), .inl m_base1, .inl m_at1, .inl m_end1, .inl m_number1, .inl m_wrongAt1, .inr (.inr (1, 79)), .inr (.inr (1, 80)), .inr (.inr (1, 81)), .inr (.inr (1, 82)), .inr (.inr (1, 83)), .inr (.inr (1, 84)), .inl m_bestMany1, .inl m_bestHere1, .inl m_bestWorn1, .inl m_bestMinutes1, .inl m_turn1, .inl m_ever1, .inl m_made1, .inl m_ruleHere1, .inl m_ruleMinutes1, .inl m_ruleEver1, .inr (.inr (1, 85)), .inl m_ran1, .inl m_isKept1])) := by rw [e40, List.getElem?_set_ne (by first | decide | omega)]; exact c63_1
                  have c42 : h39[70]? = some (.inr (0, .inl f70_2)) := by rw [e40, List.getElem?_set_ne (by first | decide | omega)]; exact c70_2
                  have c43 : h39[71]? = some (.inr (0, .inl f71_3)) := by rw [e40, List.getElem?_set_ne (by first | decide | omega)]; exact c71_3
                  have c44 : h39[72]? = some (.inr (0, .inl f72_4)) := by rw [e40, List.getElem?_set_ne (by first | decide | omega)]; exact c72_4
                  have c45 : h39[74]? = some (.inr (1, .inr (.inl (f74_5.set ((160 * w) + q).toNatClampNeg x.toInt32.toInt64)))) := by rw [e40, List.getElem?_set_self (List.getElem?_eq_some_iff.mp c74_5).1]
                  have hI46 : zx_I h39 := by rw [e40]; exact zi_set hI (show zc_lrow 1280 _ from ⟨_, rfl, by rw [List.length_set]; exact l74_5⟩) (by decide) (by decide)
                  have l47 := (List.length_set (as := f74_5) (i := ((160 * w) + q).toNatClampNeg) (a := x.toInt32.toInt64)).trans l74_5
                  have fr48 : ∀ i, i ∉ ([64, 74] : List Nat) → h39[i]? = h[i]? := fun i hi => Eq.trans (b := h[i]?) (by rw [e40, List.getElem?_set_ne (fun z => hi (by rw [← z]; decide))]) (fr0 i hi)
                  refine zw_ic (v := 1) (pc' := 131) dX8_set_130 rfl rfl ?_
                  refine zw_iret dX8_set_131 rfl rfl ?_
                  exact hq _ h39 hI46 fr48
              · have g25t : ((f71_3.getD w.toNatClampNeg 0)).toInt = (1 : Int32).toInt := congrArg Int32.toInt g25
                refine zx_W_ins (pc' := 106) dX8_set_105 rfl (fun _ => rfl) rfl ?_
                refine zx_W_ins (pc' := 107) dX8_set_106 rfl (fun _ => rfl) rfl ?_
                refine zx_W_ins (pc' := 108) dX8_set_107 rfl (fun _ => rfl) rfl ?_
                refine zx_W_ins (pc' := 109) dX8_set_108 rfl (fun _ => rfl) rfl ?_
                refine zw_goto (tgt := 129) dX8_set_109 rfl ?_
                have ix49 := zc_ix (w := w) (q := q) (by omega) (by omega)
                refine zw_las (pc' := 130) dX8_set_129 rfl c74_5 (zi_in (by have := l74_5; omega)) ?_
                obtain ⟨h50, e51⟩ : ∃ z, z = h.set 74 (.inr (1, .inr (.inl (f74_5.set ((160 * w) + q).toNatClampNeg x.toInt32.toInt16.toInt32.toInt64)))) := ⟨_, rfl⟩
                rw [← e51]
                have c52 : h50[63]? = some (.inl (8, [.inl m_furlongs1, .inl m_many1, .inl m_bagged1, .inl m_legs1, .inl m_most1, .inl m_nap1, .inl m_on1, .inl m_biscuits1, .inl m_races1, .inl m_worn1, .inl m_here1, .inl m_minutes1, .inl m_seed1, .inl m_fault1, .inr (.inr (1, 64)), .inr (.inr (1, 65)), .inr (.inr (1, 66)), .inr (.inr (1, 67)), .inr (.inr (1, 68)), .inr (.inr (1, 69)), .inr (.inr (1, 70)), .inr (.inr (1, 71)), .inr (.inr (1, 72)), .inr (.inr (1, 73)), .inr (.inr (1, 74)), .inr (.inr (1, 75)), .inr (.inr (1, 76)), .inr (.inr (1, 77)), .inr (.inr (1, 78)), .inl m_base1, .inl m_at1, .inl m_end1, .inl m_number1, .inl m_wrongAt1, .inr (.inr (1, 79)), .inr (.inr (1, 80)), .inr (.inr (1, 81)), .inr (.inr (1, 82)), .inr (.inr (1, 83)), .inr (.inr (1, 84)), .inl m_bestMany1, .inl m_bestHere1, .inl m_bestWorn1, .inl m_bestMinutes1, .inl m_turn1, .inl m_ever1, .inl m_made1, .inl m_ruleHere1, .inl m_ruleMinutes1, .inl m_ruleEver1, .inr (.inr (1, 85)), .inl m_ran1, .inl m_isKept1])) := by rw [e51, List.getElem?_set_ne (by first | decide | omega)]; exact c63_1
                have c53 : h50[70]? = some (.inr (0, .inl f70_2)) := by rw [e51, List.getElem?_set_ne (by first | decide | omega)]; exact c70_2
                have c54 : h50[71]? = some (.inr (0, .inl f71_3)) := by rw [e51, List.getElem?_set_ne (by first | decide | omega)]; exact c71_3
                have c55 : h50[72]? = some (.inr (0, .inl f72_4)) := by rw [e51, List.getElem?_set_ne (by first | decide | omega)]; exact c72_4
                have c56 : h50[74]? = some (.inr (1, .inr (.inl (f74_5.set ((160 * w) + q).toNatClampNeg x.toInt32.toInt16.toInt32.toInt64)))) := by rw [e51, List.getElem?_set_self (List.getElem?_eq_some_iff.mp c74_5).1]
                have hI57 : zx_I h50 := by rw [e51]; exact zi_set hI (show zc_lrow 1280 _ from ⟨_, rfl, by rw [List.length_set]; exact l74_5⟩) (by decide) (by decide)
                have l58 := (List.length_set (as := f74_5) (i := ((160 * w) + q).toNatClampNeg) (a := x.toInt32.toInt16.toInt32.toInt64)).trans l74_5
                have fr59 : ∀ i, i ∉ ([64, 74] : List Nat) → h50[i]? = h[i]? := fun i hi => Eq.trans (b := h[i]?) (by rw [e51, List.getElem?_set_ne (fun z => hi (by rw [← z]; decide))]) (fr0 i hi)
                refine zw_ic (v := 1) (pc' := 131) dX8_set_130 rfl rfl ?_
                refine zw_iret dX8_set_131 rfl rfl ?_
                exact hq _ h50 hI57 fr59
            · have g24t : ((f71_3.getD w.toNatClampNeg 0)).toInt = (0 : Int32).toInt := congrArg Int32.toInt g24
              refine zx_W_ins (pc' := 89) dX8_set_88 rfl (fun _ => rfl) rfl ?_
              refine zx_W_ins (pc' := 90) dX8_set_89 rfl (fun _ => rfl) rfl ?_
              refine zx_W_ins (pc' := 91) dX8_set_90 rfl (fun _ => rfl) rfl ?_
              refine zx_W_ins (pc' := 92) dX8_set_91 rfl (fun _ => rfl) rfl ?_
              refine zw_goto (tgt := 129) dX8_set_92 rfl ?_
              have ix60 := zc_ix (w := w) (q := q) (by omega) (by omega)
              refine zw_las (pc' := 130) dX8_set_129 rfl c74_5 (zi_in (by have := l74_5; omega)) ?_
              obtain ⟨h61, e62⟩ : ∃ z, z = h.set 74 (.inr (1, .inr (.inl (f74_5.set ((160 * w) + q).toNatClampNeg x.toInt32.toInt8.toInt32.toInt64)))) := ⟨_, rfl⟩
              rw [← e62]
              have c63 : h61[63]? = some (.inl (8, [.inl m_furlongs1, .inl m_many1, .inl m_bagged1, .inl m_legs1, .inl m_most1, .inl m_nap1, .inl m_on1, .inl m_biscuits1, .inl m_races1, .inl m_worn1, .inl m_here1, .inl m_minutes1, .inl m_seed1, .inl m_fault1, .inr (.inr (1, 64)), .inr (.inr (1, 65)), .inr (.inr (1, 66)), .inr (.inr (1, 67)), .inr (.inr (1, 68)), .inr (.inr (1, 69)), .inr (.inr (1, 70)), .inr (.inr (1, 71)), .inr (.inr (1, 72)), .inr (.inr (1, 73)), .inr (.inr (1, 74)), .inr (.inr (1, 75)), .inr (.inr (1, 76)), .inr (.inr (1, 77)), .inr (.inr (1, 78)), .inl m_base1, .inl m_at1, .inl m_end1, .inl m_number1, .inl m_wrongAt1, .inr (.inr (1, 79)), .inr (.inr (1, 80)), .inr (.inr (1, 81)), .inr (.inr (1, 82)), .inr (.inr (1, 83)), .inr (.inr (1, 84)), .inl m_bestMany1, .inl m_bestHere1, .inl m_bestWorn1, .inl m_bestMinutes1, .inl m_turn1, .inl m_ever1, .inl m_made1, .inl m_ruleHere1, .inl m_ruleMinutes1, .inl m_ruleEver1, .inr (.inr (1, 85)), .inl m_ran1, .inl m_isKept1])) := by rw [e62, List.getElem?_set_ne (by first | decide | omega)]; exact c63_1
              have c64 : h61[70]? = some (.inr (0, .inl f70_2)) := by rw [e62, List.getElem?_set_ne (by first | decide | omega)]; exact c70_2
              have c65 : h61[71]? = some (.inr (0, .inl f71_3)) := by rw [e62, List.getElem?_set_ne (by first | decide | omega)]; exact c71_3
              have c66 : h61[72]? = some (.inr (0, .inl f72_4)) := by rw [e62, List.getElem?_set_ne (by first | decide | omega)]; exact c72_4
              have c67 : h61[74]? = some (.inr (1, .inr (.inl (f74_5.set ((160 * w) + q).toNatClampNeg x.toInt32.toInt8.toInt32.toInt64)))) := by rw [e62, List.getElem?_set_self (List.getElem?_eq_some_iff.mp c74_5).1]
              have hI68 : zx_I h61 := by rw [e62]; exact zi_set hI (show zc_lrow 1280 _ from ⟨_, rfl, by rw [List.length_set]; exact l74_5⟩) (by decide) (by decide)
              have l69 := (List.length_set (as := f74_5) (i := ((160 * w) + q).toNatClampNeg) (a := x.toInt32.toInt8.toInt32.toInt64)).trans l74_5
              have fr70 : ∀ i, i ∉ ([64, 74] : List Nat) → h61[i]? = h[i]? := fun i hi => Eq.trans (b := h[i]?) (by rw [e62, List.getElem?_set_ne (fun z => hi (by rw [← z]; decide))]) (fr0 i hi)
              refine zw_ic (v := 1) (pc' := 131) dX8_set_130 rfl rfl ?_
              refine zw_iret dX8_set_131 rfl rfl ?_
              exact hq _ h61 hI68 fr70
          · refine zx_W_ins (pc' := 62) dX8_set_61 rfl (fun _ => rfl) rfl ?_
            refine zw_bi (v := (-5)) (pc' := 64) dX8_set_62 rfl rfl ?_
            refine zw_iv (k := 125) (pc' := 67) dX8_set_64 rfl rfl rfl rfl c63_1 rfl rfl (zc_125 hI (by omega) (fun v71 h72 hI73 fr74 hvv71 _ => ?_))
            show zx_W _ _ _ _ _ _ _ [.inl v71] _ _
            have fr75 : ∀ i, i ∉ ([64, 74] : List Nat) → h72[i]? = h[i]? := fun i hi => Eq.trans (fr74 i (fun z => hi (by first | exact absurd z List.not_mem_nil | (simp only [List.mem_cons, List.not_mem_nil, or_false] at z ⊢; omega)))) (fr0 i hi)
            have c76 : h72[63]? = some (.inl (8, [.inl m_furlongs1, .inl m_many1, .inl m_bagged1, .inl m_legs1, .inl m_most1, .inl m_nap1, .inl m_on1, .inl m_biscuits1, .inl m_races1, .inl m_worn1, .inl m_here1, .inl m_minutes1, .inl m_seed1, .inl m_fault1, .inr (.inr (1, 64)), .inr (.inr (1, 65)), .inr (.inr (1, 66)), .inr (.inr (1, 67)), .inr (.inr (1, 68)), .inr (.inr (1, 69)), .inr (.inr (1, 70)), .inr (.inr (1, 71)), .inr (.inr (1, 72)), .inr (.inr (1, 73)), .inr (.inr (1, 74)), .inr (.inr (1, 75)), .inr (.inr (1, 76)), .inr (.inr (1, 77)), .inr (.inr (1, 78)), .inl m_base1, .inl m_at1, .inl m_end1, .inl m_number1, .inl m_wrongAt1, .inr (.inr (1, 79)), .inr (.inr (1, 80)), .inr (.inr (1, 81)), .inr (.inr (1, 82)), .inr (.inr (1, 83)), .inr (.inr (1, 84)), .inl m_bestMany1, .inl m_bestHere1, .inl m_bestWorn1, .inl m_bestMinutes1, .inl m_turn1, .inl m_ever1, .inl m_made1, .inl m_ruleHere1, .inl m_ruleMinutes1, .inl m_ruleEver1, .inr (.inr (1, 85)), .inl m_ran1, .inl m_isKept1])) := by rw [fr74 63 (by decide)]; exact c63_1
            have c77 : h72[70]? = some (.inr (0, .inl f70_2)) := by rw [fr74 70 (by decide)]; exact c70_2
            have c78 : h72[71]? = some (.inr (0, .inl f71_3)) := by rw [fr74 71 (by decide)]; exact c71_3
            have c79 : h72[72]? = some (.inr (0, .inl f72_4)) := by rw [fr74 72 (by decide)]; exact c72_4
            have c80 : h72[74]? = some (.inr (1, .inr (.inl f74_5))) := by rw [fr74 74 (by decide)]; exact c74_5
            obtain ⟨x81, c64_81, f64_81, rfl, l64_81⟩ := zi_g hI73 64 (by decide)
            refine zw_iret dX8_set_67 rfl rfl ?_
            exact hq _ h72 hI73 fr75
      · have g9t : ((f70_2.getD w.toNatClampNeg 0)).toInt = (0 : Int32).toInt := congrArg Int32.toInt g9
        refine zx_W_ins (pc' := 41) dX8_set_40 rfl (fun _ => rfl) rfl ?_
        refine zw_bi (v := (-3)) (pc' := 43) dX8_set_41 rfl rfl ?_
        refine zw_iv (k := 125) (pc' := 46) dX8_set_43 rfl rfl rfl rfl c63_1 rfl rfl (zc_125 hI (by omega) (fun v82 h83 hI84 fr85 hvv82 _ => ?_))
        show zx_W _ _ _ _ _ _ _ [.inl v82] _ _
        have fr86 : ∀ i, i ∉ ([64, 74] : List Nat) → h83[i]? = h[i]? := fun i hi => Eq.trans (fr85 i (fun z => hi (by first | exact absurd z List.not_mem_nil | (simp only [List.mem_cons, List.not_mem_nil, or_false] at z ⊢; omega)))) (fr0 i hi)
        have c87 : h83[63]? = some (.inl (8, [.inl m_furlongs1, .inl m_many1, .inl m_bagged1, .inl m_legs1, .inl m_most1, .inl m_nap1, .inl m_on1, .inl m_biscuits1, .inl m_races1, .inl m_worn1, .inl m_here1, .inl m_minutes1, .inl m_seed1, .inl m_fault1, .inr (.inr (1, 64)), .inr (.inr (1, 65)), .inr (.inr (1, 66)), .inr (.inr (1, 67)), .inr (.inr (1, 68)), .inr (.inr (1, 69)), .inr (.inr (1, 70)), .inr (.inr (1, 71)), .inr (.inr (1, 72)), .inr (.inr (1, 73)), .inr (.inr (1, 74)), .inr (.inr (1, 75)), .inr (.inr (1, 76)), .inr (.inr (1, 77)), .inr (.inr (1, 78)), .inl m_base1, .inl m_at1, .inl m_end1, .inl m_number1, .inl m_wrongAt1, .inr (.inr (1, 79)), .inr (.inr (1, 80)), .inr (.inr (1, 81)), .inr (.inr (1, 82)), .inr (.inr (1, 83)), .inr (.inr (1, 84)), .inl m_bestMany1, .inl m_bestHere1, .inl m_bestWorn1, .inl m_bestMinutes1, .inl m_turn1, .inl m_ever1, .inl m_made1, .inl m_ruleHere1, .inl m_ruleMinutes1, .inl m_ruleEver1, .inr (.inr (1, 85)), .inl m_ran1, .inl m_isKept1])) := by rw [fr85 63 (by decide)]; exact c63_1
        have c88 : h83[70]? = some (.inr (0, .inl f70_2)) := by rw [fr85 70 (by decide)]; exact c70_2
        have c89 : h83[71]? = some (.inr (0, .inl f71_3)) := by rw [fr85 71 (by decide)]; exact c71_3
        have c90 : h83[72]? = some (.inr (0, .inl f72_4)) := by rw [fr85 72 (by decide)]; exact c72_4
        have c91 : h83[74]? = some (.inr (1, .inr (.inl f74_5))) := by rw [fr85 74 (by decide)]; exact c74_5
        obtain ⟨x92, c64_92, f64_92, rfl, l64_92⟩ := zi_g hI84 64 (by decide)
        refine zw_iret dX8_set_46 rfl rfl ?_
        exact hq _ h83 hI84 fr86
    · have g8t : ((f70_2.getD w.toNatClampNeg 0)).toInt = (2 : Int32).toInt := congrArg Int32.toInt g8
      refine zx_W_ins (pc' := 25) dX8_set_24 rfl (fun _ => rfl) rfl ?_
      refine zw_bi (v := (-2)) (pc' := 27) dX8_set_25 rfl rfl ?_
      refine zw_iv (k := 125) (pc' := 30) dX8_set_27 rfl rfl rfl rfl c63_1 rfl rfl (zc_125 hI (by omega) (fun v93 h94 hI95 fr96 hvv93 _ => ?_))
      show zx_W _ _ _ _ _ _ _ [.inl v93] _ _
      have fr97 : ∀ i, i ∉ ([64, 74] : List Nat) → h94[i]? = h[i]? := fun i hi => Eq.trans (fr96 i (fun z => hi (by first | exact absurd z List.not_mem_nil | (simp only [List.mem_cons, List.not_mem_nil, or_false] at z ⊢; omega)))) (fr0 i hi)
      have c98 : h94[63]? = some (.inl (8, [.inl m_furlongs1, .inl m_many1, .inl m_bagged1, .inl m_legs1, .inl m_most1, .inl m_nap1, .inl m_on1, .inl m_biscuits1, .inl m_races1, .inl m_worn1, .inl m_here1, .inl m_minutes1, .inl m_seed1, .inl m_fault1, .inr (.inr (1, 64)), .inr (.inr (1, 65)), .inr (.inr (1, 66)), .inr (.inr (1, 67)), .inr (.inr (1, 68)), .inr (.inr (1, 69)), .inr (.inr (1, 70)), .inr (.inr (1, 71)), .inr (.inr (1, 72)), .inr (.inr (1, 73)), .inr (.inr (1, 74)), .inr (.inr (1, 75)), .inr (.inr (1, 76)), .inr (.inr (1, 77)), .inr (.inr (1, 78)), .inl m_base1, .inl m_at1, .inl m_end1, .inl m_number1, .inl m_wrongAt1, .inr (.inr (1, 79)), .inr (.inr (1, 80)), .inr (.inr (1, 81)), .inr (.inr (1, 82)), .inr (.inr (1, 83)), .inr (.inr (1, 84)), .inl m_bestMany1, .inl m_bestHere1, .inl m_bestWorn1, .inl m_bestMinutes1, .inl m_turn1, .inl m_ever1, .inl m_made1, .inl m_ruleHere1, .inl m_ruleMinutes1, .inl m_ruleEver1, .inr (.inr (1, 85)), .inl m_ran1, .inl m_isKept1])) := by rw [fr96 63 (by decide)]; exact c63_1
      have c99 : h94[70]? = some (.inr (0, .inl f70_2)) := by rw [fr96 70 (by decide)]; exact c70_2
      have c100 : h94[71]? = some (.inr (0, .inl f71_3)) := by rw [fr96 71 (by decide)]; exact c71_3
      have c101 : h94[72]? = some (.inr (0, .inl f72_4)) := by rw [fr96 72 (by decide)]; exact c72_4
      have c102 : h94[74]? = some (.inr (1, .inr (.inl f74_5))) := by rw [fr96 74 (by decide)]; exact c74_5
      obtain ⟨x103, c64_103, f64_103, rfl, l64_103⟩ := zi_g hI95 64 (by decide)
      refine zw_iret dX8_set_30 rfl rfl ?_
      exact hq _ h94 hI95 fr97
  · show zx_W _ _ _ _ _ _ _ [.inl 0] _ _
    refine zw_if_ne (tgt := 14) (pc' := 8) dX8_set_5 rfl rfl (fun g => by first | exact absurd rfl g | exact absurd g (by decide)) (fun _ => ?_)
    refine zx_W_ins (pc' := 9) dX8_set_8 rfl (fun _ => rfl) rfl ?_
    refine zw_ic (v := (-1)) (pc' := 10) dX8_set_9 rfl rfl ?_
    refine zw_iv (k := 125) (pc' := 13) dX8_set_10 rfl rfl rfl rfl c63_1 rfl rfl (zc_125 hI (by omega) (fun v105 h106 hI107 fr108 hvv105 _ => ?_))
    show zx_W _ _ _ _ _ _ _ [.inl v105] _ _
    have fr109 : ∀ i, i ∉ ([64, 74] : List Nat) → h106[i]? = h[i]? := fun i hi => Eq.trans (fr108 i (fun z => hi (by first | exact absurd z List.not_mem_nil | (simp only [List.mem_cons, List.not_mem_nil, or_false] at z ⊢; omega)))) (fr0 i hi)
    have c110 : h106[63]? = some (.inl (8, [.inl m_furlongs1, .inl m_many1, .inl m_bagged1, .inl m_legs1, .inl m_most1, .inl m_nap1, .inl m_on1, .inl m_biscuits1, .inl m_races1, .inl m_worn1, .inl m_here1, .inl m_minutes1, .inl m_seed1, .inl m_fault1, .inr (.inr (1, 64)), .inr (.inr (1, 65)), .inr (.inr (1, 66)), .inr (.inr (1, 67)), .inr (.inr (1, 68)), .inr (.inr (1, 69)), .inr (.inr (1, 70)), .inr (.inr (1, 71)), .inr (.inr (1, 72)), .inr (.inr (1, 73)), .inr (.inr (1, 74)), .inr (.inr (1, 75)), .inr (.inr (1, 76)), .inr (.inr (1, 77)), .inr (.inr (1, 78)), .inl m_base1, .inl m_at1, .inl m_end1, .inl m_number1, .inl m_wrongAt1, .inr (.inr (1, 79)), .inr (.inr (1, 80)), .inr (.inr (1, 81)), .inr (.inr (1, 82)), .inr (.inr (1, 83)), .inr (.inr (1, 84)), .inl m_bestMany1, .inl m_bestHere1, .inl m_bestWorn1, .inl m_bestMinutes1, .inl m_turn1, .inl m_ever1, .inl m_made1, .inl m_ruleHere1, .inl m_ruleMinutes1, .inl m_ruleEver1, .inr (.inr (1, 85)), .inl m_ran1, .inl m_isKept1])) := by rw [fr108 63 (by decide)]; exact c63_1
    have c111 : h106[70]? = some (.inr (0, .inl f70_2)) := by rw [fr108 70 (by decide)]; exact c70_2
    have c112 : h106[71]? = some (.inr (0, .inl f71_3)) := by rw [fr108 71 (by decide)]; exact c71_3
    have c113 : h106[72]? = some (.inr (0, .inl f72_4)) := by rw [fr108 72 (by decide)]; exact c72_4
    have c114 : h106[74]? = some (.inr (1, .inr (.inl f74_5))) := by rw [fr108 74 (by decide)]; exact c74_5
    obtain ⟨x115, c64_115, f64_115, rfl, l64_115⟩ := zi_g hI107 64 (by decide)
    refine zw_iret dX8_set_13 rfl rfl ?_
    exact hq _ h106 hI107 fr109
