/-! part 30: the reference: an element read and set: laid by wip/p2/meths.py -/
theorem zc_ix {w q : Int32} (hw : 0 ≤ w.toInt ∧ w.toInt < 8) (hq : 0 ≤ q.toInt ∧ q.toInt < 160) : (160 * w + q).toInt = 160 * w.toInt + q.toInt := by
  have e : (160 : Int32).toInt = 160 := by decide
  have m := fb_mulI (x := 160) (y := w) (by rw [e]; omega) (by rw [e]; omega)
  rw [e] at m
  rw [fb_addI (by rw [m]; omega) (by rw [m]; omega), m]
def zt_133 : zx_MT := (8, yX8_element, cX8_element, 3, (some FieldType.long), 2, 0)
theorem zm_133 : zx_m 133 = zt_133 := rfl
theorem dX8_element_0 : decode cX8_element 0 = .ok (.aload_n 0, 1) := by decide +kernel
theorem dX8_element_1 : decode cX8_element 1 = .ok (.iload_n 1, 1) := by decide +kernel
theorem dX8_element_2 : decode cX8_element 2 = .ok (.invokevirtual 111, 3) := by decide +kernel
theorem dX8_element_5 : decode cX8_element 5 = .ok (.ifCond .eq 42, 3) := by decide +kernel
theorem dX8_element_8 : decode cX8_element 8 = .ok (.aload_n 0, 1) := by decide +kernel
theorem dX8_element_9 : decode cX8_element 9 = .ok (.getfield 56, 3) := by decide +kernel
theorem dX8_element_12 : decode cX8_element 12 = .ok (.iload_n 1, 1) := by decide +kernel
theorem dX8_element_13 : decode cX8_element 13 = .ok (.iaload, 1) := by decide +kernel
theorem dX8_element_14 : decode cX8_element 14 = .ok (.iconst 1, 1) := by decide +kernel
theorem dX8_element_15 : decode cX8_element 15 = .ok (.if_icmp .ne 32, 3) := by decide +kernel
theorem dX8_element_18 : decode cX8_element 18 = .ok (.iload_n 2, 1) := by decide +kernel
theorem dX8_element_19 : decode cX8_element 19 = .ok (.ifCond .lt 28, 3) := by decide +kernel
theorem dX8_element_22 : decode cX8_element 22 = .ok (.iload_n 2, 1) := by decide +kernel
theorem dX8_element_23 : decode cX8_element 23 = .ok (.aload_n 0, 1) := by decide +kernel
theorem dX8_element_24 : decode cX8_element 24 = .ok (.getfield 62, 3) := by decide +kernel
theorem dX8_element_27 : decode cX8_element 27 = .ok (.iload_n 1, 1) := by decide +kernel
theorem dX8_element_28 : decode cX8_element 28 = .ok (.iaload, 1) := by decide +kernel
theorem dX8_element_29 : decode cX8_element 29 = .ok (.if_icmp .ge 18, 3) := by decide +kernel
theorem dX8_element_32 : decode cX8_element 32 = .ok (.aload_n 0, 1) := by decide +kernel
theorem dX8_element_33 : decode cX8_element 33 = .ok (.getfield 68, 3) := by decide +kernel
theorem dX8_element_36 : decode cX8_element 36 = .ok (.sipush 160, 3) := by decide +kernel
theorem dX8_element_39 : decode cX8_element 39 = .ok (.iload_n 1, 1) := by decide +kernel
theorem dX8_element_40 : decode cX8_element 40 = .ok (.imul, 1) := by decide +kernel
theorem dX8_element_41 : decode cX8_element 41 = .ok (.iload_n 2, 1) := by decide +kernel
theorem dX8_element_42 : decode cX8_element 42 = .ok (.iadd, 1) := by decide +kernel
theorem dX8_element_43 : decode cX8_element 43 = .ok (.laload, 1) := by decide +kernel
theorem dX8_element_44 : decode cX8_element 44 = .ok (.goto 4, 3) := by decide +kernel
theorem dX8_element_47 : decode cX8_element 47 = .ok (.lconst 0, 1) := by decide +kernel
theorem dX8_element_48 : decode cX8_element 48 = .ok (.lreturn, 1) := by decide +kernel
theorem zc_133 {d : Nat} {h : List zx_C} {w : Int32} {q : Int32} {Q : Option zx_V → List zx_C → Prop} (hI : zx_I h)    (hq : ∀ (v : Int64) (h2 : List zx_C), zx_I h2 → (∀ i, i ∉ ([] : List Nat) → h2[i]? = h[i]?) → Q (some (.inr (.inl v))) h2) : zx_M (d + 1) 133 [.inr (.inr (1, 63)), .inl w, .inl q] h Q := by
  have el_1 : (1 : Int32).toInt = 1 := by decide
  have el_160 : (160 : Int32).toInt = 160 := by decide
  obtain ⟨x1, c63_1, m_furlongs1, m_many1, m_bagged1, m_legs1, m_most1, m_nap1, m_on1, m_biscuits1, m_races1, m_worn1, m_here1, m_minutes1, m_seed1, m_fault1, m_base1, m_at1, m_end1, m_number1, m_wrongAt1, m_bestMany1, m_bestHere1, m_bestWorn1, m_bestMinutes1, m_turn1, m_ever1, m_made1, m_ruleHere1, m_ruleMinutes1, m_ruleEver1, m_ran1, m_isKept1, rfl, q0_1, q1_1, q2_1, q3_1, q4_1, q5_1, q6_1, q7_1, q8_1⟩ := zi_g hI 63 (by decide)
  obtain ⟨x2, c70_2, f70_2, rfl, l70_2, b70_2⟩ := zi_g hI 70 (by decide)
  obtain ⟨x3, c72_3, f72_3, rfl, l72_3, b72_3⟩ := zi_g hI 72 (by decide)
  obtain ⟨x4, c74_4, f74_4, rfl, l74_4⟩ := zi_g hI 74 (by decide)
  have fr0 : ∀ i, i ∉ ([] : List Nat) → h[i]? = h[i]? := fun _ _ => rfl
  refine zx_M_of (Nat.le_of_ble_eq_true rfl) zm_133 (L := [some (.inr (.inr (1, 63))), some (.inl w), some (.inl q)]) rfl ?_
  refine zx_W_ins (pc' := 1) dX8_element_0 rfl (fun _ => rfl) rfl ?_
  refine zx_W_ins (pc' := 2) dX8_element_1 rfl (fun _ => rfl) rfl ?_
  refine zw_iv (k := 127) (pc' := 5) dX8_element_2 rfl rfl rfl rfl c63_1 rfl rfl (zc_127 (fun g5 _ => ?_) (fun g5 _ => ?_))
  · show zx_W _ _ _ _ _ _ _ [.inl 1] _ _
    refine zw_if_eq (tgt := 47) (pc' := 8) dX8_element_5 rfl rfl (fun g => by first | exact absurd rfl g | exact absurd g (by decide)) (fun _ => ?_)
    refine zx_W_ins (pc' := 9) dX8_element_8 rfl (fun _ => rfl) rfl ?_
    refine zw_gf (pc' := 12) dX8_element_9 rfl rfl c63_1 rfl ?_
    refine zx_W_ins (pc' := 13) dX8_element_12 rfl (fun _ => rfl) rfl ?_
    refine zw_ial (pc' := 14) dX8_element_13 rfl c70_2 (zi_in (by have := l70_2; omega)) ?_
    have bb7 := b70_2 w.toNatClampNeg (by have := (zi_in (x := w) (n := 8) (by omega)).2; omega)
    refine zw_ic (v := 1) (pc' := 15) dX8_element_14 rfl rfl ?_
    refine zw_icmp_ne (tgt := 47) (pc' := 18) dX8_element_15 rfl rfl (fun g8 => ?_) (fun g8 => ?_)
    · have g8t : ¬ ((f70_2.getD w.toNatClampNeg 0)).toInt = (1 : Int32).toInt := fun z => g8 (Int32.toInt_inj.mp z)
      refine zx_W_ins (pc' := 48) dX8_element_47 rfl (fun _ => rfl) rfl ?_
      refine zw_lret dX8_element_48 rfl ?_
      exact hq _ h hI fr0
    · have g8t : ((f70_2.getD w.toNatClampNeg 0)).toInt = (1 : Int32).toInt := congrArg Int32.toInt g8
      refine zx_W_ins (pc' := 19) dX8_element_18 rfl (fun _ => rfl) rfl ?_
      refine zw_if_lt (tgt := 47) (pc' := 22) dX8_element_19 rfl rfl (fun g9 => ?_) (fun g9 => ?_)
      · refine zx_W_ins (pc' := 48) dX8_element_47 rfl (fun _ => rfl) rfl ?_
        refine zw_lret dX8_element_48 rfl ?_
        exact hq _ h hI fr0
      · refine zx_W_ins (pc' := 23) dX8_element_22 rfl (fun _ => rfl) rfl ?_
        refine zx_W_ins (pc' := 24) dX8_element_23 rfl (fun _ => rfl) rfl ?_
        refine zw_gf (pc' := 27) dX8_element_24 rfl rfl c63_1 rfl ?_
        refine zx_W_ins (pc' := 28) dX8_element_27 rfl (fun _ => rfl) rfl ?_
        refine zw_ial (pc' := 29) dX8_element_28 rfl c72_3 (zi_in (by have := l72_3; omega)) ?_
        have bb10 := b72_3 w.toNatClampNeg (by have := (zi_in (x := w) (n := 8) (by omega)).2; omega)
        refine zw_icmp_ge (tgt := 47) (pc' := 32) dX8_element_29 rfl rfl (fun g11 => ?_) (fun g11 => ?_)
        · refine zx_W_ins (pc' := 48) dX8_element_47 rfl (fun _ => rfl) rfl ?_
          refine zw_lret dX8_element_48 rfl ?_
          exact hq _ h hI fr0
        · refine zx_W_ins (pc' := 33) dX8_element_32 rfl (fun _ => rfl) rfl ?_
          refine zw_gf (pc' := 36) dX8_element_33 rfl rfl c63_1 rfl ?_
          refine zw_si (v := 160) (pc' := 39) dX8_element_36 rfl rfl ?_
          refine zx_W_ins (pc' := 40) dX8_element_39 rfl (fun _ => rfl) rfl ?_
          refine zx_W_ins (pc' := 41) dX8_element_40 rfl (fun _ => rfl) rfl ?_
          refine zx_W_ins (pc' := 42) dX8_element_41 rfl (fun _ => rfl) rfl ?_
          refine zx_W_ins (pc' := 43) dX8_element_42 rfl (fun _ => rfl) rfl ?_
          have ix12 := zc_ix (w := w) (q := q) (by omega) (by omega)
          refine zw_lal (pc' := 44) dX8_element_43 rfl c74_4 (zi_in (by have := l74_4; omega)) ?_
          refine zw_goto (tgt := 48) dX8_element_44 rfl ?_
          refine zw_lret dX8_element_48 rfl ?_
          exact hq _ h hI fr0
  · show zx_W _ _ _ _ _ _ _ [.inl 0] _ _
    refine zw_if_eq (tgt := 47) (pc' := 8) dX8_element_5 rfl rfl (fun _ => ?_) (fun g => by first | exact absurd rfl g | exact absurd g (by decide))
    refine zx_W_ins (pc' := 48) dX8_element_47 rfl (fun _ => rfl) rfl ?_
    refine zw_lret dX8_element_48 rfl ?_
    exact hq _ h hI fr0
def zt_131 : zx_MT := (8, yX8_set, cX8_set, 5, (some FieldType.int), 3, 0)
theorem zm_131 : zx_m 131 = zt_131 := rfl
theorem dX8_set_0 : decode cX8_set 0 = .ok (.aload_n 0, 1) := by decide +kernel
theorem dX8_set_1 : decode cX8_set 1 = .ok (.iload_n 1, 1) := by decide +kernel
theorem dX8_set_2 : decode cX8_set 2 = .ok (.invokevirtual 111, 3) := by decide +kernel
theorem dX8_set_5 : decode cX8_set 5 = .ok (.ifCond .ne 9, 3) := by decide +kernel
theorem dX8_set_8 : decode cX8_set 8 = .ok (.aload_n 0, 1) := by decide +kernel
theorem dX8_set_9 : decode cX8_set 9 = .ok (.iconst (-1), 1) := by decide +kernel
theorem dX8_set_10 : decode cX8_set 10 = .ok (.invokevirtual 115, 3) := by decide +kernel
theorem dX8_set_13 : decode cX8_set 13 = .ok (.ireturn, 1) := by decide +kernel
theorem dX8_set_14 : decode cX8_set 14 = .ok (.aload_n 0, 1) := by decide +kernel
theorem dX8_set_15 : decode cX8_set 15 = .ok (.getfield 56, 3) := by decide +kernel
theorem dX8_set_18 : decode cX8_set 18 = .ok (.iload_n 1, 1) := by decide +kernel
theorem dX8_set_19 : decode cX8_set 19 = .ok (.iaload, 1) := by decide +kernel
theorem dX8_set_20 : decode cX8_set 20 = .ok (.iconst 2, 1) := by decide +kernel
theorem dX8_set_21 : decode cX8_set 21 = .ok (.if_icmp .ne 10, 3) := by decide +kernel
theorem dX8_set_24 : decode cX8_set 24 = .ok (.aload_n 0, 1) := by decide +kernel
theorem dX8_set_25 : decode cX8_set 25 = .ok (.bipush (-2), 2) := by decide +kernel
theorem dX8_set_27 : decode cX8_set 27 = .ok (.invokevirtual 115, 3) := by decide +kernel
theorem dX8_set_30 : decode cX8_set 30 = .ok (.ireturn, 1) := by decide +kernel
theorem dX8_set_31 : decode cX8_set 31 = .ok (.aload_n 0, 1) := by decide +kernel
theorem dX8_set_32 : decode cX8_set 32 = .ok (.getfield 56, 3) := by decide +kernel
theorem dX8_set_35 : decode cX8_set 35 = .ok (.iload_n 1, 1) := by decide +kernel
theorem dX8_set_36 : decode cX8_set 36 = .ok (.iaload, 1) := by decide +kernel
theorem dX8_set_37 : decode cX8_set 37 = .ok (.ifCond .ne 10, 3) := by decide +kernel
theorem dX8_set_40 : decode cX8_set 40 = .ok (.aload_n 0, 1) := by decide +kernel
theorem dX8_set_41 : decode cX8_set 41 = .ok (.bipush (-3), 2) := by decide +kernel
theorem dX8_set_43 : decode cX8_set 43 = .ok (.invokevirtual 115, 3) := by decide +kernel
theorem dX8_set_46 : decode cX8_set 46 = .ok (.ireturn, 1) := by decide +kernel
theorem dX8_set_47 : decode cX8_set 47 = .ok (.iload_n 2, 1) := by decide +kernel
theorem dX8_set_48 : decode cX8_set 48 = .ok (.ifCond .lt 13, 3) := by decide +kernel
theorem dX8_set_51 : decode cX8_set 51 = .ok (.iload_n 2, 1) := by decide +kernel
theorem dX8_set_52 : decode cX8_set 52 = .ok (.aload_n 0, 1) := by decide +kernel
theorem dX8_set_53 : decode cX8_set 53 = .ok (.getfield 62, 3) := by decide +kernel
theorem dX8_set_56 : decode cX8_set 56 = .ok (.iload_n 1, 1) := by decide +kernel
theorem dX8_set_57 : decode cX8_set 57 = .ok (.iaload, 1) := by decide +kernel
theorem dX8_set_58 : decode cX8_set 58 = .ok (.if_icmp .lt 10, 3) := by decide +kernel
theorem dX8_set_61 : decode cX8_set 61 = .ok (.aload_n 0, 1) := by decide +kernel
theorem dX8_set_62 : decode cX8_set 62 = .ok (.bipush (-5), 2) := by decide +kernel
theorem dX8_set_64 : decode cX8_set 64 = .ok (.invokevirtual 115, 3) := by decide +kernel
theorem dX8_set_67 : decode cX8_set 67 = .ok (.ireturn, 1) := by decide +kernel
theorem dX8_set_68 : decode cX8_set 68 = .ok (.aload_n 0, 1) := by decide +kernel
theorem dX8_set_69 : decode cX8_set 69 = .ok (.getfield 68, 3) := by decide +kernel
theorem dX8_set_72 : decode cX8_set 72 = .ok (.sipush 160, 3) := by decide +kernel
theorem dX8_set_75 : decode cX8_set 75 = .ok (.iload_n 1, 1) := by decide +kernel
theorem dX8_set_76 : decode cX8_set 76 = .ok (.imul, 1) := by decide +kernel
theorem dX8_set_77 : decode cX8_set 77 = .ok (.iload_n 2, 1) := by decide +kernel
theorem dX8_set_78 : decode cX8_set 78 = .ok (.iadd, 1) := by decide +kernel
theorem dX8_set_79 : decode cX8_set 79 = .ok (.aload_n 0, 1) := by decide +kernel
theorem dX8_set_80 : decode cX8_set 80 = .ok (.getfield 59, 3) := by decide +kernel
theorem dX8_set_83 : decode cX8_set 83 = .ok (.iload_n 1, 1) := by decide +kernel
theorem dX8_set_84 : decode cX8_set 84 = .ok (.iaload, 1) := by decide +kernel
theorem dX8_set_85 : decode cX8_set 85 = .ok (.ifCond .ne 10, 3) := by decide +kernel
theorem dX8_set_88 : decode cX8_set 88 = .ok (.lload_n 3, 1) := by decide +kernel
theorem dX8_set_89 : decode cX8_set 89 = .ok (.l2i, 1) := by decide +kernel
theorem dX8_set_90 : decode cX8_set 90 = .ok (.i2b, 1) := by decide +kernel
theorem dX8_set_91 : decode cX8_set 91 = .ok (.i2l, 1) := by decide +kernel
theorem dX8_set_92 : decode cX8_set 92 = .ok (.goto 37, 3) := by decide +kernel
theorem dX8_set_95 : decode cX8_set 95 = .ok (.aload_n 0, 1) := by decide +kernel
theorem dX8_set_96 : decode cX8_set 96 = .ok (.getfield 59, 3) := by decide +kernel
theorem dX8_set_99 : decode cX8_set 99 = .ok (.iload_n 1, 1) := by decide +kernel
theorem dX8_set_100 : decode cX8_set 100 = .ok (.iaload, 1) := by decide +kernel
theorem dX8_set_101 : decode cX8_set 101 = .ok (.iconst 1, 1) := by decide +kernel
theorem dX8_set_102 : decode cX8_set 102 = .ok (.if_icmp .ne 10, 3) := by decide +kernel
theorem dX8_set_105 : decode cX8_set 105 = .ok (.lload_n 3, 1) := by decide +kernel
theorem dX8_set_106 : decode cX8_set 106 = .ok (.l2i, 1) := by decide +kernel
theorem dX8_set_107 : decode cX8_set 107 = .ok (.i2s, 1) := by decide +kernel
theorem dX8_set_108 : decode cX8_set 108 = .ok (.i2l, 1) := by decide +kernel
theorem dX8_set_109 : decode cX8_set 109 = .ok (.goto 20, 3) := by decide +kernel
theorem dX8_set_112 : decode cX8_set 112 = .ok (.aload_n 0, 1) := by decide +kernel
theorem dX8_set_113 : decode cX8_set 113 = .ok (.getfield 59, 3) := by decide +kernel
theorem dX8_set_116 : decode cX8_set 116 = .ok (.iload_n 1, 1) := by decide +kernel
theorem dX8_set_117 : decode cX8_set 117 = .ok (.iaload, 1) := by decide +kernel
theorem dX8_set_118 : decode cX8_set 118 = .ok (.iconst 2, 1) := by decide +kernel
theorem dX8_set_119 : decode cX8_set 119 = .ok (.if_icmp .ne 9, 3) := by decide +kernel
theorem dX8_set_122 : decode cX8_set 122 = .ok (.lload_n 3, 1) := by decide +kernel
theorem dX8_set_123 : decode cX8_set 123 = .ok (.l2i, 1) := by decide +kernel
theorem dX8_set_124 : decode cX8_set 124 = .ok (.i2l, 1) := by decide +kernel
theorem dX8_set_125 : decode cX8_set 125 = .ok (.goto 4, 3) := by decide +kernel
theorem dX8_set_128 : decode cX8_set 128 = .ok (.lload_n 3, 1) := by decide +kernel
theorem dX8_set_129 : decode cX8_set 129 = .ok (.lastore, 1) := by decide +kernel
theorem dX8_set_130 : decode cX8_set 130 = .ok (.iconst 1, 1) := by decide +kernel
theorem dX8_set_131 : decode cX8_set 131 = .ok (.ireturn, 1) := by decide +kernel
theorem zc_131 {d : Nat} {h : List zx_C} {w : Int32} {q : Int32} {x : Int64} {Q : Option zx_V → List zx_C → Prop} (hI : zx_I h)    (hq : ∀ (v : Int32) (h2 : List zx_C), zx_I h2 → (∀ i, i ∉ ([64, 74] : List Nat) → h2[i]? = h[i]?) → Q (some (.inl v)) h2) : zx_M (d + 1) 131 [.inr (.inr (1, 63)), .inl w, .inl q, .inr (.inl x)] h Q := by
  have el_m5 : ((-5) : Int32).toInt = -5 := by decide
  have el_m3 : ((-3) : Int32).toInt = -3 := by decide
  have el_m2 : ((-2) : Int32).toInt = -2 := by decide
  have el_m1 : ((-1) : Int32).toInt = -1 := by decide
  have el_0 : (0 : Int32).toInt = 0 := by decide
  have el_1 : (1 : Int32).toInt = 1 := by decide
  have el_2 : (2 : Int32).toInt = 2 := by decide
  have el_160 : (160 : Int32).toInt = 160 := by decide
  obtain ⟨x1, c63_1, m_furlongs1, m_many1, m_bagged1, m_legs1, m_most1, m_nap1, m_on1, m_biscuits1, m_races1, m_worn1, m_here1, m_minutes1, m_seed1, m_fault1, m_base1, m_at1, m_end1, m_number1, m_wrongAt1, m_bestMany1, m_bestHere1, m_bestWorn1, m_bestMinutes1, m_turn1, m_ever1, m_made1, m_ruleHere1, m_ruleMinutes1, m_ruleEver1, m_ran1, m_isKept1, rfl, q0_1, q1_1, q2_1, q3_1, q4_1, q5_1, q6_1, q7_1, q8_1⟩ := zi_g hI 63 (by decide)
  obtain ⟨x2, c70_2, f70_2, rfl, l70_2, b70_2⟩ := zi_g hI 70 (by decide)
  obtain ⟨x3, c71_3, f71_3, rfl, l71_3⟩ := zi_g hI 71 (by decide)
  obtain ⟨x4, c72_4, f72_4, rfl, l72_4, b72_4⟩ := zi_g hI 72 (by decide)
  obtain ⟨x5, c74_5, f74_5, rfl, l74_5⟩ := zi_g hI 74 (by decide)
  have fr0 : ∀ i, i ∉ ([64, 74] : List Nat) → h[i]? = h[i]? := fun _ _ => rfl
  refine zx_M_of (Nat.le_of_ble_eq_true rfl) zm_131 (L := [some (.inr (.inr (1, 63))), some (.inl w), some (.inl q), some (.inr (.inl x)), none]) rfl ?_
  refine zx_W_ins (pc' := 1) dX8_set_0 rfl (fun _ => rfl) rfl ?_
  refine zx_W_ins (pc' := 2) dX8_set_1 rfl (fun _ => rfl) rfl ?_
  refine zw_iv (k := 127) (pc' := 5) dX8_set_2 rfl rfl rfl rfl c63_1 rfl rfl (zc_127 (fun g6 _ => ?_) (fun g6 _ => ?_))
  · show zx_W _ _ _ _ _ _ _ [.inl 1] _ _
    refine zw_if_ne (tgt := 14) (pc' := 8) dX8_set_5 rfl rfl (fun _ => ?_) (fun g => by first | exact absurd rfl g | exact absurd g (by decide))
    refine zx_W_ins (pc' := 15) dX8_set_14 rfl (fun _ => rfl) rfl ?_
    refine zw_gf (pc' := 18) dX8_set_15 rfl rfl c63_1 rfl ?_
    refine zx_W_ins (pc' := 19) dX8_set_18 rfl (fun _ => rfl) rfl ?_
    refine zw_ial (pc' := 20) dX8_set_19 rfl c70_2 (zi_in (by have := l70_2; omega)) ?_
    have bb8 := b70_2 w.toNatClampNeg (by have := (zi_in (x := w) (n := 8) (by omega)).2; omega)
    refine zw_ic (v := 2) (pc' := 21) dX8_set_20 rfl rfl ?_
    refine zw_icmp_ne (tgt := 31) (pc' := 24) dX8_set_21 rfl rfl (fun g9 => ?_) (fun g9 => ?_)
    · have g9t : ¬ ((f70_2.getD w.toNatClampNeg 0)).toInt = (2 : Int32).toInt := fun z => g9 (Int32.toInt_inj.mp z)
      refine zx_W_ins (pc' := 32) dX8_set_31 rfl (fun _ => rfl) rfl ?_
      refine zw_gf (pc' := 35) dX8_set_32 rfl rfl c63_1 rfl ?_
      refine zx_W_ins (pc' := 36) dX8_set_35 rfl (fun _ => rfl) rfl ?_
      refine zw_ial (pc' := 37) dX8_set_36 rfl c70_2 (zi_in (by have := l70_2; omega)) ?_
      have bb10 := b70_2 w.toNatClampNeg (by have := (zi_in (x := w) (n := 8) (by omega)).2; omega)
      refine zw_if_ne (tgt := 47) (pc' := 40) dX8_set_37 rfl rfl (fun g11 => ?_) (fun g11 => ?_)
      · have g11t : ¬ ((f70_2.getD w.toNatClampNeg 0)).toInt = (0 : Int32).toInt := fun z => g11 (Int32.toInt_inj.mp z)
        refine zx_W_ins (pc' := 48) dX8_set_47 rfl (fun _ => rfl) rfl ?_
        refine zw_if_lt (tgt := 61) (pc' := 51) dX8_set_48 rfl rfl (fun g12 => ?_) (fun g12 => ?_)
        · refine zx_W_ins (pc' := 62) dX8_set_61 rfl (fun _ => rfl) rfl ?_
          refine zw_bi (v := (-5)) (pc' := 64) dX8_set_62 rfl rfl ?_
          refine zw_iv (k := 125) (pc' := 67) dX8_set_64 rfl rfl rfl rfl c63_1 rfl rfl (zc_125 hI (by omega) (fun v13 h14 hI15 fr16 hvv13 _ => ?_))
          show zx_W _ _ _ _ _ _ _ [.inl v13] _ _
          have fr17 : ∀ i, i ∉ ([64, 74] : List Nat) → h14[i]? = h[i]? := fun i hi => Eq.trans (fr16 i (fun z => hi (by first | exact absurd z List.not_mem_nil | (simp only [List.mem_cons, List.not_mem_nil, or_false] at z ⊢; omega)))) (fr0 i hi)
          have c18 : h14[63]? = some (.inl (8, [.inl m_furlongs1, .inl m_many1, .inl m_bagged1, .inl m_legs1, .inl m_most1, .inl m_nap1, .inl m_on1, .inl m_biscuits1, .inl m_races1, .inl m_worn1, .inl m_here1, .inl m_minutes1, .inl m_seed1, .inl m_fault1, .inr (.inr (1, 64)), .inr (.inr (1, 65)), .inr (.inr (1, 66)), .inr (.inr (1, 67)), .inr (.inr (1, 68)), .inr (.inr (1, 69)), .inr (.inr (1, 70)), .inr (.inr (1, 71)), .inr (.inr (1, 72)), .inr (.inr (1, 73)), .inr (.inr (1, 74)), .inr (.inr (1, 75)), .inr (.inr (1, 76)), .inr (.inr (1, 77)), .inr (.inr (1, 78)), .inl m_base1, .inl m_at1, .inl m_end1, .inl m_number1, .inl m_wrongAt1, .inr (.inr (1, 79)), .inr (.inr (1, 80)), .inr (.inr (1, 81)), .inr (.inr (1, 82)), .inr (.inr (1, 83)), .inr (.inr (1, 84)), .inl m_bestMany1, .inl m_bestHere1, .inl m_bestWorn1, .inl m_bestMinutes1, .inl m_turn1, .inl m_ever1, .inl m_made1, .inl m_ruleHere1, .inl m_ruleMinutes1, .inl m_ruleEver1, .inr (.inr (1, 85)), .inl m_ran1, .inl m_isKept1])) := by rw [fr16 63 (by decide)]; exact c63_1
          have c19 : h14[70]? = some (.inr (0, .inl f70_2)) := by rw [fr16 70 (by decide)]; exact c70_2
          have c20 : h14[71]? = some (.inr (0, .inl f71_3)) := by rw [fr16 71 (by decide)]; exact c71_3
          have c21 : h14[72]? = some (.inr (0, .inl f72_4)) := by rw [fr16 72 (by decide)]; exact c72_4
          have c22 : h14[74]? = some (.inr (1, .inr (.inl f74_5))) := by rw [fr16 74 (by decide)]; exact c74_5
          obtain ⟨x23, c64_23, f64_23, rfl, l64_23⟩ := zi_g hI15 64 (by decide)
          refine zw_iret dX8_set_67 rfl rfl ?_
          exact hq _ h14 hI15 fr17
        · refine zx_W_ins (pc' := 52) dX8_set_51 rfl (fun _ => rfl) rfl ?_
          refine zx_W_ins (pc' := 53) dX8_set_52 rfl (fun _ => rfl) rfl ?_
          refine zw_gf (pc' := 56) dX8_set_53 rfl rfl c63_1 rfl ?_
          refine zx_W_ins (pc' := 57) dX8_set_56 rfl (fun _ => rfl) rfl ?_
          refine zw_ial (pc' := 58) dX8_set_57 rfl c72_4 (zi_in (by have := l72_4; omega)) ?_
          have bb24 := b72_4 w.toNatClampNeg (by have := (zi_in (x := w) (n := 8) (by omega)).2; omega)
          refine zw_icmp_lt (tgt := 68) (pc' := 61) dX8_set_58 rfl rfl (fun g25 => ?_) (fun g25 => ?_)
          · refine zx_W_ins (pc' := 69) dX8_set_68 rfl (fun _ => rfl) rfl ?_
            refine zw_gf (pc' := 72) dX8_set_69 rfl rfl c63_1 rfl ?_
            refine zw_si (v := 160) (pc' := 75) dX8_set_72 rfl rfl ?_
            refine zx_W_ins (pc' := 76) dX8_set_75 rfl (fun _ => rfl) rfl ?_
            refine zx_W_ins (pc' := 77) dX8_set_76 rfl (fun _ => rfl) rfl ?_
            refine zx_W_ins (pc' := 78) dX8_set_77 rfl (fun _ => rfl) rfl ?_
            refine zx_W_ins (pc' := 79) dX8_set_78 rfl (fun _ => rfl) rfl ?_
            refine zx_W_ins (pc' := 80) dX8_set_79 rfl (fun _ => rfl) rfl ?_
            refine zw_gf (pc' := 83) dX8_set_80 rfl rfl c63_1 rfl ?_
            refine zx_W_ins (pc' := 84) dX8_set_83 rfl (fun _ => rfl) rfl ?_
            refine zw_ial (pc' := 85) dX8_set_84 rfl c71_3 (zi_in (by have := l71_3; omega)) ?_
            refine zw_if_ne (tgt := 95) (pc' := 88) dX8_set_85 rfl rfl (fun g26 => ?_) (fun g26 => ?_)
            · have g26t : ¬ ((f71_3.getD w.toNatClampNeg 0)).toInt = (0 : Int32).toInt := fun z => g26 (Int32.toInt_inj.mp z)
              refine zx_W_ins (pc' := 96) dX8_set_95 rfl (fun _ => rfl) rfl ?_
              refine zw_gf (pc' := 99) dX8_set_96 rfl rfl c63_1 rfl ?_
              refine zx_W_ins (pc' := 100) dX8_set_99 rfl (fun _ => rfl) rfl ?_
              refine zw_ial (pc' := 101) dX8_set_100 rfl c71_3 (zi_in (by have := l71_3; omega)) ?_
              refine zw_ic (v := 1) (pc' := 102) dX8_set_101 rfl rfl ?_
              refine zw_icmp_ne (tgt := 112) (pc' := 105) dX8_set_102 rfl rfl (fun g27 => ?_) (fun g27 => ?_)
              · have g27t : ¬ ((f71_3.getD w.toNatClampNeg 0)).toInt = (1 : Int32).toInt := fun z => g27 (Int32.toInt_inj.mp z)
                refine zx_W_ins (pc' := 113) dX8_set_112 rfl (fun _ => rfl) rfl ?_
                refine zw_gf (pc' := 116) dX8_set_113 rfl rfl c63_1 rfl ?_
                refine zx_W_ins (pc' := 117) dX8_set_116 rfl (fun _ => rfl) rfl ?_
                refine zw_ial (pc' := 118) dX8_set_117 rfl c71_3 (zi_in (by have := l71_3; omega)) ?_
                refine zw_ic (v := 2) (pc' := 119) dX8_set_118 rfl rfl ?_
                refine zw_icmp_ne (tgt := 128) (pc' := 122) dX8_set_119 rfl rfl (fun g28 => ?_) (fun g28 => ?_)
                · have g28t : ¬ ((f71_3.getD w.toNatClampNeg 0)).toInt = (2 : Int32).toInt := fun z => g28 (Int32.toInt_inj.mp z)
                  refine zx_W_ins (pc' := 129) dX8_set_128 rfl (fun _ => rfl) rfl ?_
                  have ix29 := zc_ix (w := w) (q := q) (by omega) (by omega)
                  refine zw_las (pc' := 130) dX8_set_129 rfl c74_5 (zi_in (by have := l74_5; omega)) ?_
                  obtain ⟨h30, e31⟩ : ∃ z, z = h.set 74 (.inr (1, .inr (.inl (f74_5.set ((160 * w) + q).toNatClampNeg x)))) := ⟨_, rfl⟩
                  rw [← e31]
                  have c32 : h30[63]? = some (.inl (8, [.inl m_furlongs1, .inl m_many1, .inl m_bagged1, .inl m_legs1, .inl m_most1, .inl m_nap1, .inl m_on1, .inl m_biscuits1, .inl m_races1, .inl m_worn1, .inl m_here1, .inl m_minutes1, .inl m_seed1, .inl m_fault1, .inr (.inr (1, 64)), .inr (.inr (1, 65)), .inr (.inr (1, 66)), .inr (.inr (1, 67)), .inr (.inr (1, 68)), .inr (.inr (1, 69)), .inr (.inr (1, 70)), .inr (.inr (1, 71)), .inr (.inr (1, 72)), .inr (.inr (1, 73)), .inr (.inr (1, 74)), .inr (.inr (1, 75)), .inr (.inr (1, 76)), .inr (.inr (1, 77)), .inr (.inr (1, 78)), .inl m_base1, .inl m_at1, .inl m_end1, .inl m_number1, .inl m_wrongAt1, .inr (.inr (1, 79)), .inr (.inr (1, 80)), .inr (.inr (1, 81)), .inr (.inr (1, 82)), .inr (.inr (1, 83)), .inr (.inr (1, 84)), .inl m_bestMany1, .inl m_bestHere1, .inl m_bestWorn1, .inl m_bestMinutes1, .inl m_turn1, .inl m_ever1, .inl m_made1, .inl m_ruleHere1, .inl m_ruleMinutes1, .inl m_ruleEver1, .inr (.inr (1, 85)), .inl m_ran1, .inl m_isKept1])) := by rw [e31, List.getElem?_set_ne (by first | decide | omega)]; exact c63_1
                  have c33 : h30[70]? = some (.inr (0, .inl f70_2)) := by rw [e31, List.getElem?_set_ne (by first | decide | omega)]; exact c70_2
                  have c34 : h30[71]? = some (.inr (0, .inl f71_3)) := by rw [e31, List.getElem?_set_ne (by first | decide | omega)]; exact c71_3
                  have c35 : h30[72]? = some (.inr (0, .inl f72_4)) := by rw [e31, List.getElem?_set_ne (by first | decide | omega)]; exact c72_4
                  have c36 : h30[74]? = some (.inr (1, .inr (.inl (f74_5.set ((160 * w) + q).toNatClampNeg x)))) := by rw [e31, List.getElem?_set_self (List.getElem?_eq_some_iff.mp c74_5).1]
                  have hI37 : zx_I h30 := by rw [e31]; exact zi_set hI (show zc_lrow 1280 _ from ⟨_, rfl, by rw [List.length_set]; exact l74_5⟩) (by decide) (by decide)
                  have l38 := (List.length_set (as := f74_5) (i := ((160 * w) + q).toNatClampNeg) (a := x)).trans l74_5
                  have fr39 : ∀ i, i ∉ ([64, 74] : List Nat) → h30[i]? = h[i]? := fun i hi => Eq.trans (b := h[i]?) (by rw [e31, List.getElem?_set_ne (fun z => hi (by rw [← z]; decide))]) (fr0 i hi)
                  refine zw_ic (v := 1) (pc' := 131) dX8_set_130 rfl rfl ?_
                  refine zw_iret dX8_set_131 rfl rfl ?_
                  exact hq _ h30 hI37 fr39
                · have g28t : ((f71_3.getD w.toNatClampNeg 0)).toInt = (2 : Int32).toInt := congrArg Int32.toInt g28
                  refine zx_W_ins (pc' := 123) dX8_set_122 rfl (fun _ => rfl) rfl ?_
                  refine zx_W_ins (pc' := 124) dX8_set_123 rfl (fun _ => rfl) rfl ?_
                  refine zx_W_ins (pc' := 125) dX8_set_124 rfl (fun _ => rfl) rfl ?_
                  refine zw_goto (tgt := 129) dX8_set_125 rfl ?_
                  have ix40 := zc_ix (w := w) (q := q) (by omega) (by omega)
                  refine zw_las (pc' := 130) dX8_set_129 rfl c74_5 (zi_in (by have := l74_5; omega)) ?_
                  obtain ⟨h41, e42⟩ : ∃ z, z = h.set 74 (.inr (1, .inr (.inl (f74_5.set ((160 * w) + q).toNatClampNeg x.toInt32.toInt64)))) := ⟨_, rfl⟩
                  rw [← e42]
                  have c43 : h41[63]? = some (.inl (8, [.inl m_furlongs1, .inl m_many1, .inl m_bagged1, .inl m_legs1, .inl m_most1, .inl m_nap1, .inl m_on1, .inl m_biscuits1, .inl m_races1, .inl m_worn1, .inl m_here1, .inl m_minutes1, .inl m_seed1, .inl m_fault1, .inr (.inr (1, 64)), .inr (.inr (1, 65)), .inr (.inr (1, 66)), .inr (.inr (1, 67)), .inr (.inr (1, 68)), .inr (.inr (1, 69)), .inr (.inr (1, 70)), .inr (.inr (1, 71)), .inr (.inr (1, 72)), .inr (.inr (1, 73)), .inr (.inr (1, 74)), .inr (.inr (1, 75)), .inr (.inr (1, 76)), .inr (.inr (1, 77)), .inr (.inr (1, 78)), .inl m_base1, .inl m_at1, .inl m_end1, .inl m_number1, .inl m_wrongAt1, .inr (.inr (1, 79)), .inr (.inr (1, 80)), .inr (.inr (1, 81)), .inr (.inr (1, 82)), .inr (.inr (1, 83)), .inr (.inr (1, 84)), .inl m_bestMany1, .inl m_bestHere1, .inl m_bestWorn1, .inl m_bestMinutes1, .inl m_turn1, .inl m_ever1, .inl m_made1, .inl m_ruleHere1, .inl m_ruleMinutes1, .inl m_ruleEver1, .inr (.inr (1, 85)), .inl m_ran1, .inl m_isKept1])) := by rw [e42, List.getElem?_set_ne (by first | decide | omega)]; exact c63_1
                  have c44 : h41[70]? = some (.inr (0, .inl f70_2)) := by rw [e42, List.getElem?_set_ne (by first | decide | omega)]; exact c70_2
                  have c45 : h41[71]? = some (.inr (0, .inl f71_3)) := by rw [e42, List.getElem?_set_ne (by first | decide | omega)]; exact c71_3
                  have c46 : h41[72]? = some (.inr (0, .inl f72_4)) := by rw [e42, List.getElem?_set_ne (by first | decide | omega)]; exact c72_4
                  have c47 : h41[74]? = some (.inr (1, .inr (.inl (f74_5.set ((160 * w) + q).toNatClampNeg x.toInt32.toInt64)))) := by rw [e42, List.getElem?_set_self (List.getElem?_eq_some_iff.mp c74_5).1]
                  have hI48 : zx_I h41 := by rw [e42]; exact zi_set hI (show zc_lrow 1280 _ from ⟨_, rfl, by rw [List.length_set]; exact l74_5⟩) (by decide) (by decide)
                  have l49 := (List.length_set (as := f74_5) (i := ((160 * w) + q).toNatClampNeg) (a := x.toInt32.toInt64)).trans l74_5
                  have fr50 : ∀ i, i ∉ ([64, 74] : List Nat) → h41[i]? = h[i]? := fun i hi => Eq.trans (b := h[i]?) (by rw [e42, List.getElem?_set_ne (fun z => hi (by rw [← z]; decide))]) (fr0 i hi)
                  refine zw_ic (v := 1) (pc' := 131) dX8_set_130 rfl rfl ?_
                  refine zw_iret dX8_set_131 rfl rfl ?_
                  exact hq _ h41 hI48 fr50
              · have g27t : ((f71_3.getD w.toNatClampNeg 0)).toInt = (1 : Int32).toInt := congrArg Int32.toInt g27
                refine zx_W_ins (pc' := 106) dX8_set_105 rfl (fun _ => rfl) rfl ?_
                refine zx_W_ins (pc' := 107) dX8_set_106 rfl (fun _ => rfl) rfl ?_
                refine zx_W_ins (pc' := 108) dX8_set_107 rfl (fun _ => rfl) rfl ?_
                refine zx_W_ins (pc' := 109) dX8_set_108 rfl (fun _ => rfl) rfl ?_
                refine zw_goto (tgt := 129) dX8_set_109 rfl ?_
                have ix51 := zc_ix (w := w) (q := q) (by omega) (by omega)
                refine zw_las (pc' := 130) dX8_set_129 rfl c74_5 (zi_in (by have := l74_5; omega)) ?_
                obtain ⟨h52, e53⟩ : ∃ z, z = h.set 74 (.inr (1, .inr (.inl (f74_5.set ((160 * w) + q).toNatClampNeg x.toInt32.toInt16.toInt32.toInt64)))) := ⟨_, rfl⟩
                rw [← e53]
                have c54 : h52[63]? = some (.inl (8, [.inl m_furlongs1, .inl m_many1, .inl m_bagged1, .inl m_legs1, .inl m_most1, .inl m_nap1, .inl m_on1, .inl m_biscuits1, .inl m_races1, .inl m_worn1, .inl m_here1, .inl m_minutes1, .inl m_seed1, .inl m_fault1, .inr (.inr (1, 64)), .inr (.inr (1, 65)), .inr (.inr (1, 66)), .inr (.inr (1, 67)), .inr (.inr (1, 68)), .inr (.inr (1, 69)), .inr (.inr (1, 70)), .inr (.inr (1, 71)), .inr (.inr (1, 72)), .inr (.inr (1, 73)), .inr (.inr (1, 74)), .inr (.inr (1, 75)), .inr (.inr (1, 76)), .inr (.inr (1, 77)), .inr (.inr (1, 78)), .inl m_base1, .inl m_at1, .inl m_end1, .inl m_number1, .inl m_wrongAt1, .inr (.inr (1, 79)), .inr (.inr (1, 80)), .inr (.inr (1, 81)), .inr (.inr (1, 82)), .inr (.inr (1, 83)), .inr (.inr (1, 84)), .inl m_bestMany1, .inl m_bestHere1, .inl m_bestWorn1, .inl m_bestMinutes1, .inl m_turn1, .inl m_ever1, .inl m_made1, .inl m_ruleHere1, .inl m_ruleMinutes1, .inl m_ruleEver1, .inr (.inr (1, 85)), .inl m_ran1, .inl m_isKept1])) := by rw [e53, List.getElem?_set_ne (by first | decide | omega)]; exact c63_1
                have c55 : h52[70]? = some (.inr (0, .inl f70_2)) := by rw [e53, List.getElem?_set_ne (by first | decide | omega)]; exact c70_2
                have c56 : h52[71]? = some (.inr (0, .inl f71_3)) := by rw [e53, List.getElem?_set_ne (by first | decide | omega)]; exact c71_3
                have c57 : h52[72]? = some (.inr (0, .inl f72_4)) := by rw [e53, List.getElem?_set_ne (by first | decide | omega)]; exact c72_4
                have c58 : h52[74]? = some (.inr (1, .inr (.inl (f74_5.set ((160 * w) + q).toNatClampNeg x.toInt32.toInt16.toInt32.toInt64)))) := by rw [e53, List.getElem?_set_self (List.getElem?_eq_some_iff.mp c74_5).1]
                have hI59 : zx_I h52 := by rw [e53]; exact zi_set hI (show zc_lrow 1280 _ from ⟨_, rfl, by rw [List.length_set]; exact l74_5⟩) (by decide) (by decide)
                have l60 := (List.length_set (as := f74_5) (i := ((160 * w) + q).toNatClampNeg) (a := x.toInt32.toInt16.toInt32.toInt64)).trans l74_5
                have fr61 : ∀ i, i ∉ ([64, 74] : List Nat) → h52[i]? = h[i]? := fun i hi => Eq.trans (b := h[i]?) (by rw [e53, List.getElem?_set_ne (fun z => hi (by rw [← z]; decide))]) (fr0 i hi)
                refine zw_ic (v := 1) (pc' := 131) dX8_set_130 rfl rfl ?_
                refine zw_iret dX8_set_131 rfl rfl ?_
                exact hq _ h52 hI59 fr61
            · have g26t : ((f71_3.getD w.toNatClampNeg 0)).toInt = (0 : Int32).toInt := congrArg Int32.toInt g26
              refine zx_W_ins (pc' := 89) dX8_set_88 rfl (fun _ => rfl) rfl ?_
              refine zx_W_ins (pc' := 90) dX8_set_89 rfl (fun _ => rfl) rfl ?_
              refine zx_W_ins (pc' := 91) dX8_set_90 rfl (fun _ => rfl) rfl ?_
              refine zx_W_ins (pc' := 92) dX8_set_91 rfl (fun _ => rfl) rfl ?_
              refine zw_goto (tgt := 129) dX8_set_92 rfl ?_
              have ix62 := zc_ix (w := w) (q := q) (by omega) (by omega)
              refine zw_las (pc' := 130) dX8_set_129 rfl c74_5 (zi_in (by have := l74_5; omega)) ?_
              obtain ⟨h63, e64⟩ : ∃ z, z = h.set 74 (.inr (1, .inr (.inl (f74_5.set ((160 * w) + q).toNatClampNeg x.toInt32.toInt8.toInt32.toInt64)))) := ⟨_, rfl⟩
              rw [← e64]
              have c65 : h63[63]? = some (.inl (8, [.inl m_furlongs1, .inl m_many1, .inl m_bagged1, .inl m_legs1, .inl m_most1, .inl m_nap1, .inl m_on1, .inl m_biscuits1, .inl m_races1, .inl m_worn1, .inl m_here1, .inl m_minutes1, .inl m_seed1, .inl m_fault1, .inr (.inr (1, 64)), .inr (.inr (1, 65)), .inr (.inr (1, 66)), .inr (.inr (1, 67)), .inr (.inr (1, 68)), .inr (.inr (1, 69)), .inr (.inr (1, 70)), .inr (.inr (1, 71)), .inr (.inr (1, 72)), .inr (.inr (1, 73)), .inr (.inr (1, 74)), .inr (.inr (1, 75)), .inr (.inr (1, 76)), .inr (.inr (1, 77)), .inr (.inr (1, 78)), .inl m_base1, .inl m_at1, .inl m_end1, .inl m_number1, .inl m_wrongAt1, .inr (.inr (1, 79)), .inr (.inr (1, 80)), .inr (.inr (1, 81)), .inr (.inr (1, 82)), .inr (.inr (1, 83)), .inr (.inr (1, 84)), .inl m_bestMany1, .inl m_bestHere1, .inl m_bestWorn1, .inl m_bestMinutes1, .inl m_turn1, .inl m_ever1, .inl m_made1, .inl m_ruleHere1, .inl m_ruleMinutes1, .inl m_ruleEver1, .inr (.inr (1, 85)), .inl m_ran1, .inl m_isKept1])) := by rw [e64, List.getElem?_set_ne (by first | decide | omega)]; exact c63_1
              have c66 : h63[70]? = some (.inr (0, .inl f70_2)) := by rw [e64, List.getElem?_set_ne (by first | decide | omega)]; exact c70_2
              have c67 : h63[71]? = some (.inr (0, .inl f71_3)) := by rw [e64, List.getElem?_set_ne (by first | decide | omega)]; exact c71_3
              have c68 : h63[72]? = some (.inr (0, .inl f72_4)) := by rw [e64, List.getElem?_set_ne (by first | decide | omega)]; exact c72_4
              have c69 : h63[74]? = some (.inr (1, .inr (.inl (f74_5.set ((160 * w) + q).toNatClampNeg x.toInt32.toInt8.toInt32.toInt64)))) := by rw [e64, List.getElem?_set_self (List.getElem?_eq_some_iff.mp c74_5).1]
              have hI70 : zx_I h63 := by rw [e64]; exact zi_set hI (show zc_lrow 1280 _ from ⟨_, rfl, by rw [List.length_set]; exact l74_5⟩) (by decide) (by decide)
              have l71 := (List.length_set (as := f74_5) (i := ((160 * w) + q).toNatClampNeg) (a := x.toInt32.toInt8.toInt32.toInt64)).trans l74_5
              have fr72 : ∀ i, i ∉ ([64, 74] : List Nat) → h63[i]? = h[i]? := fun i hi => Eq.trans (b := h[i]?) (by rw [e64, List.getElem?_set_ne (fun z => hi (by rw [← z]; decide))]) (fr0 i hi)
              refine zw_ic (v := 1) (pc' := 131) dX8_set_130 rfl rfl ?_
              refine zw_iret dX8_set_131 rfl rfl ?_
              exact hq _ h63 hI70 fr72
          · refine zx_W_ins (pc' := 62) dX8_set_61 rfl (fun _ => rfl) rfl ?_
            refine zw_bi (v := (-5)) (pc' := 64) dX8_set_62 rfl rfl ?_
            refine zw_iv (k := 125) (pc' := 67) dX8_set_64 rfl rfl rfl rfl c63_1 rfl rfl (zc_125 hI (by omega) (fun v73 h74 hI75 fr76 hvv73 _ => ?_))
            show zx_W _ _ _ _ _ _ _ [.inl v73] _ _
            have fr77 : ∀ i, i ∉ ([64, 74] : List Nat) → h74[i]? = h[i]? := fun i hi => Eq.trans (fr76 i (fun z => hi (by first | exact absurd z List.not_mem_nil | (simp only [List.mem_cons, List.not_mem_nil, or_false] at z ⊢; omega)))) (fr0 i hi)
            have c78 : h74[63]? = some (.inl (8, [.inl m_furlongs1, .inl m_many1, .inl m_bagged1, .inl m_legs1, .inl m_most1, .inl m_nap1, .inl m_on1, .inl m_biscuits1, .inl m_races1, .inl m_worn1, .inl m_here1, .inl m_minutes1, .inl m_seed1, .inl m_fault1, .inr (.inr (1, 64)), .inr (.inr (1, 65)), .inr (.inr (1, 66)), .inr (.inr (1, 67)), .inr (.inr (1, 68)), .inr (.inr (1, 69)), .inr (.inr (1, 70)), .inr (.inr (1, 71)), .inr (.inr (1, 72)), .inr (.inr (1, 73)), .inr (.inr (1, 74)), .inr (.inr (1, 75)), .inr (.inr (1, 76)), .inr (.inr (1, 77)), .inr (.inr (1, 78)), .inl m_base1, .inl m_at1, .inl m_end1, .inl m_number1, .inl m_wrongAt1, .inr (.inr (1, 79)), .inr (.inr (1, 80)), .inr (.inr (1, 81)), .inr (.inr (1, 82)), .inr (.inr (1, 83)), .inr (.inr (1, 84)), .inl m_bestMany1, .inl m_bestHere1, .inl m_bestWorn1, .inl m_bestMinutes1, .inl m_turn1, .inl m_ever1, .inl m_made1, .inl m_ruleHere1, .inl m_ruleMinutes1, .inl m_ruleEver1, .inr (.inr (1, 85)), .inl m_ran1, .inl m_isKept1])) := by rw [fr76 63 (by decide)]; exact c63_1
            have c79 : h74[70]? = some (.inr (0, .inl f70_2)) := by rw [fr76 70 (by decide)]; exact c70_2
            have c80 : h74[71]? = some (.inr (0, .inl f71_3)) := by rw [fr76 71 (by decide)]; exact c71_3
            have c81 : h74[72]? = some (.inr (0, .inl f72_4)) := by rw [fr76 72 (by decide)]; exact c72_4
            have c82 : h74[74]? = some (.inr (1, .inr (.inl f74_5))) := by rw [fr76 74 (by decide)]; exact c74_5
            obtain ⟨x83, c64_83, f64_83, rfl, l64_83⟩ := zi_g hI75 64 (by decide)
            refine zw_iret dX8_set_67 rfl rfl ?_
            exact hq _ h74 hI75 fr77
      · have g11t : ((f70_2.getD w.toNatClampNeg 0)).toInt = (0 : Int32).toInt := congrArg Int32.toInt g11
        refine zx_W_ins (pc' := 41) dX8_set_40 rfl (fun _ => rfl) rfl ?_
        refine zw_bi (v := (-3)) (pc' := 43) dX8_set_41 rfl rfl ?_
        refine zw_iv (k := 125) (pc' := 46) dX8_set_43 rfl rfl rfl rfl c63_1 rfl rfl (zc_125 hI (by omega) (fun v84 h85 hI86 fr87 hvv84 _ => ?_))
        show zx_W _ _ _ _ _ _ _ [.inl v84] _ _
        have fr88 : ∀ i, i ∉ ([64, 74] : List Nat) → h85[i]? = h[i]? := fun i hi => Eq.trans (fr87 i (fun z => hi (by first | exact absurd z List.not_mem_nil | (simp only [List.mem_cons, List.not_mem_nil, or_false] at z ⊢; omega)))) (fr0 i hi)
        have c89 : h85[63]? = some (.inl (8, [.inl m_furlongs1, .inl m_many1, .inl m_bagged1, .inl m_legs1, .inl m_most1, .inl m_nap1, .inl m_on1, .inl m_biscuits1, .inl m_races1, .inl m_worn1, .inl m_here1, .inl m_minutes1, .inl m_seed1, .inl m_fault1, .inr (.inr (1, 64)), .inr (.inr (1, 65)), .inr (.inr (1, 66)), .inr (.inr (1, 67)), .inr (.inr (1, 68)), .inr (.inr (1, 69)), .inr (.inr (1, 70)), .inr (.inr (1, 71)), .inr (.inr (1, 72)), .inr (.inr (1, 73)), .inr (.inr (1, 74)), .inr (.inr (1, 75)), .inr (.inr (1, 76)), .inr (.inr (1, 77)), .inr (.inr (1, 78)), .inl m_base1, .inl m_at1, .inl m_end1, .inl m_number1, .inl m_wrongAt1, .inr (.inr (1, 79)), .inr (.inr (1, 80)), .inr (.inr (1, 81)), .inr (.inr (1, 82)), .inr (.inr (1, 83)), .inr (.inr (1, 84)), .inl m_bestMany1, .inl m_bestHere1, .inl m_bestWorn1, .inl m_bestMinutes1, .inl m_turn1, .inl m_ever1, .inl m_made1, .inl m_ruleHere1, .inl m_ruleMinutes1, .inl m_ruleEver1, .inr (.inr (1, 85)), .inl m_ran1, .inl m_isKept1])) := by rw [fr87 63 (by decide)]; exact c63_1
        have c90 : h85[70]? = some (.inr (0, .inl f70_2)) := by rw [fr87 70 (by decide)]; exact c70_2
        have c91 : h85[71]? = some (.inr (0, .inl f71_3)) := by rw [fr87 71 (by decide)]; exact c71_3
        have c92 : h85[72]? = some (.inr (0, .inl f72_4)) := by rw [fr87 72 (by decide)]; exact c72_4
        have c93 : h85[74]? = some (.inr (1, .inr (.inl f74_5))) := by rw [fr87 74 (by decide)]; exact c74_5
        obtain ⟨x94, c64_94, f64_94, rfl, l64_94⟩ := zi_g hI86 64 (by decide)
        refine zw_iret dX8_set_46 rfl rfl ?_
        exact hq _ h85 hI86 fr88
    · have g9t : ((f70_2.getD w.toNatClampNeg 0)).toInt = (2 : Int32).toInt := congrArg Int32.toInt g9
      refine zx_W_ins (pc' := 25) dX8_set_24 rfl (fun _ => rfl) rfl ?_
      refine zw_bi (v := (-2)) (pc' := 27) dX8_set_25 rfl rfl ?_
      refine zw_iv (k := 125) (pc' := 30) dX8_set_27 rfl rfl rfl rfl c63_1 rfl rfl (zc_125 hI (by omega) (fun v95 h96 hI97 fr98 hvv95 _ => ?_))
      show zx_W _ _ _ _ _ _ _ [.inl v95] _ _
      have fr99 : ∀ i, i ∉ ([64, 74] : List Nat) → h96[i]? = h[i]? := fun i hi => Eq.trans (fr98 i (fun z => hi (by first | exact absurd z List.not_mem_nil | (simp only [List.mem_cons, List.not_mem_nil, or_false] at z ⊢; omega)))) (fr0 i hi)
      have c100 : h96[63]? = some (.inl (8, [.inl m_furlongs1, .inl m_many1, .inl m_bagged1, .inl m_legs1, .inl m_most1, .inl m_nap1, .inl m_on1, .inl m_biscuits1, .inl m_races1, .inl m_worn1, .inl m_here1, .inl m_minutes1, .inl m_seed1, .inl m_fault1, .inr (.inr (1, 64)), .inr (.inr (1, 65)), .inr (.inr (1, 66)), .inr (.inr (1, 67)), .inr (.inr (1, 68)), .inr (.inr (1, 69)), .inr (.inr (1, 70)), .inr (.inr (1, 71)), .inr (.inr (1, 72)), .inr (.inr (1, 73)), .inr (.inr (1, 74)), .inr (.inr (1, 75)), .inr (.inr (1, 76)), .inr (.inr (1, 77)), .inr (.inr (1, 78)), .inl m_base1, .inl m_at1, .inl m_end1, .inl m_number1, .inl m_wrongAt1, .inr (.inr (1, 79)), .inr (.inr (1, 80)), .inr (.inr (1, 81)), .inr (.inr (1, 82)), .inr (.inr (1, 83)), .inr (.inr (1, 84)), .inl m_bestMany1, .inl m_bestHere1, .inl m_bestWorn1, .inl m_bestMinutes1, .inl m_turn1, .inl m_ever1, .inl m_made1, .inl m_ruleHere1, .inl m_ruleMinutes1, .inl m_ruleEver1, .inr (.inr (1, 85)), .inl m_ran1, .inl m_isKept1])) := by rw [fr98 63 (by decide)]; exact c63_1
      have c101 : h96[70]? = some (.inr (0, .inl f70_2)) := by rw [fr98 70 (by decide)]; exact c70_2
      have c102 : h96[71]? = some (.inr (0, .inl f71_3)) := by rw [fr98 71 (by decide)]; exact c71_3
      have c103 : h96[72]? = some (.inr (0, .inl f72_4)) := by rw [fr98 72 (by decide)]; exact c72_4
      have c104 : h96[74]? = some (.inr (1, .inr (.inl f74_5))) := by rw [fr98 74 (by decide)]; exact c74_5
      obtain ⟨x105, c64_105, f64_105, rfl, l64_105⟩ := zi_g hI97 64 (by decide)
      refine zw_iret dX8_set_30 rfl rfl ?_
      exact hq _ h96 hI97 fr99
  · show zx_W _ _ _ _ _ _ _ [.inl 0] _ _
    refine zw_if_ne (tgt := 14) (pc' := 8) dX8_set_5 rfl rfl (fun g => by first | exact absurd rfl g | exact absurd g (by decide)) (fun _ => ?_)
    refine zx_W_ins (pc' := 9) dX8_set_8 rfl (fun _ => rfl) rfl ?_
    refine zw_ic (v := (-1)) (pc' := 10) dX8_set_9 rfl rfl ?_
    refine zw_iv (k := 125) (pc' := 13) dX8_set_10 rfl rfl rfl rfl c63_1 rfl rfl (zc_125 hI (by omega) (fun v107 h108 hI109 fr110 hvv107 _ => ?_))
    show zx_W _ _ _ _ _ _ _ [.inl v107] _ _
    have fr111 : ∀ i, i ∉ ([64, 74] : List Nat) → h108[i]? = h[i]? := fun i hi => Eq.trans (fr110 i (fun z => hi (by first | exact absurd z List.not_mem_nil | (simp only [List.mem_cons, List.not_mem_nil, or_false] at z ⊢; omega)))) (fr0 i hi)
    have c112 : h108[63]? = some (.inl (8, [.inl m_furlongs1, .inl m_many1, .inl m_bagged1, .inl m_legs1, .inl m_most1, .inl m_nap1, .inl m_on1, .inl m_biscuits1, .inl m_races1, .inl m_worn1, .inl m_here1, .inl m_minutes1, .inl m_seed1, .inl m_fault1, .inr (.inr (1, 64)), .inr (.inr (1, 65)), .inr (.inr (1, 66)), .inr (.inr (1, 67)), .inr (.inr (1, 68)), .inr (.inr (1, 69)), .inr (.inr (1, 70)), .inr (.inr (1, 71)), .inr (.inr (1, 72)), .inr (.inr (1, 73)), .inr (.inr (1, 74)), .inr (.inr (1, 75)), .inr (.inr (1, 76)), .inr (.inr (1, 77)), .inr (.inr (1, 78)), .inl m_base1, .inl m_at1, .inl m_end1, .inl m_number1, .inl m_wrongAt1, .inr (.inr (1, 79)), .inr (.inr (1, 80)), .inr (.inr (1, 81)), .inr (.inr (1, 82)), .inr (.inr (1, 83)), .inr (.inr (1, 84)), .inl m_bestMany1, .inl m_bestHere1, .inl m_bestWorn1, .inl m_bestMinutes1, .inl m_turn1, .inl m_ever1, .inl m_made1, .inl m_ruleHere1, .inl m_ruleMinutes1, .inl m_ruleEver1, .inr (.inr (1, 85)), .inl m_ran1, .inl m_isKept1])) := by rw [fr110 63 (by decide)]; exact c63_1
    have c113 : h108[70]? = some (.inr (0, .inl f70_2)) := by rw [fr110 70 (by decide)]; exact c70_2
    have c114 : h108[71]? = some (.inr (0, .inl f71_3)) := by rw [fr110 71 (by decide)]; exact c71_3
    have c115 : h108[72]? = some (.inr (0, .inl f72_4)) := by rw [fr110 72 (by decide)]; exact c72_4
    have c116 : h108[74]? = some (.inr (1, .inr (.inl f74_5))) := by rw [fr110 74 (by decide)]; exact c74_5
    obtain ⟨x117, c64_117, f64_117, rfl, l64_117⟩ := zi_g hI109 64 (by decide)
    refine zw_iret dX8_set_13 rfl rfl ?_
    exact hq _ h108 hI109 fr111
