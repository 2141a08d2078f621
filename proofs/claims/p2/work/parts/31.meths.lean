/-! part 31: the reference: what a shelf holds: laid by wip/p2/meths.py -/
def zt_135 : zx_MT := (8, yX8_holds, cX8_holds, 2, (some FieldType.int), 1, 0)
theorem zm_135 : zx_m 135 = zt_135 := rfl
theorem dX8_holds_0 : decode cX8_holds 0 = .ok (.aload_n 0, 1) := by decide +kernel
theorem dX8_holds_1 : decode cX8_holds 1 = .ok (.iload_n 1, 1) := by decide +kernel
theorem dX8_holds_2 : decode cX8_holds 2 = .ok (.invokevirtual 111, 3) := by decide +kernel
theorem dX8_holds_5 : decode cX8_holds 5 = .ok (.ifCond .eq 12, 3) := by decide +kernel
theorem dX8_holds_8 : decode cX8_holds 8 = .ok (.aload_n 0, 1) := by decide +kernel
theorem dX8_holds_9 : decode cX8_holds 9 = .ok (.getfield 56, 3) := by decide +kernel
theorem dX8_holds_12 : decode cX8_holds 12 = .ok (.iload_n 1, 1) := by decide +kernel
theorem dX8_holds_13 : decode cX8_holds 13 = .ok (.iaload, 1) := by decide +kernel
theorem dX8_holds_14 : decode cX8_holds 14 = .ok (.ifCond .ne 5, 3) := by decide +kernel
theorem dX8_holds_17 : decode cX8_holds 17 = .ok (.iconst (-1), 1) := by decide +kernel
theorem dX8_holds_18 : decode cX8_holds 18 = .ok (.ireturn, 1) := by decide +kernel
theorem dX8_holds_19 : decode cX8_holds 19 = .ok (.aload_n 0, 1) := by decide +kernel
theorem dX8_holds_20 : decode cX8_holds 20 = .ok (.getfield 56, 3) := by decide +kernel
theorem dX8_holds_23 : decode cX8_holds 23 = .ok (.iload_n 1, 1) := by decide +kernel
theorem dX8_holds_24 : decode cX8_holds 24 = .ok (.iaload, 1) := by decide +kernel
theorem dX8_holds_25 : decode cX8_holds 25 = .ok (.iconst 1, 1) := by decide +kernel
theorem dX8_holds_26 : decode cX8_holds 26 = .ok (.if_icmp .ne 15, 3) := by decide +kernel
theorem dX8_holds_29 : decode cX8_holds 29 = .ok (.bipush 100, 2) := by decide +kernel
theorem dX8_holds_31 : decode cX8_holds 31 = .ok (.aload_n 0, 1) := by decide +kernel
theorem dX8_holds_32 : decode cX8_holds 32 = .ok (.getfield 59, 3) := by decide +kernel
theorem dX8_holds_35 : decode cX8_holds 35 = .ok (.iload_n 1, 1) := by decide +kernel
theorem dX8_holds_36 : decode cX8_holds 36 = .ok (.iaload, 1) := by decide +kernel
theorem dX8_holds_37 : decode cX8_holds 37 = .ok (.iadd, 1) := by decide +kernel
theorem dX8_holds_38 : decode cX8_holds 38 = .ok (.goto 9, 3) := by decide +kernel
theorem dX8_holds_41 : decode cX8_holds 41 = .ok (.aload_n 0, 1) := by decide +kernel
theorem dX8_holds_42 : decode cX8_holds 42 = .ok (.getfield 65, 3) := by decide +kernel
theorem dX8_holds_45 : decode cX8_holds 45 = .ok (.iload_n 1, 1) := by decide +kernel
theorem dX8_holds_46 : decode cX8_holds 46 = .ok (.iaload, 1) := by decide +kernel
theorem dX8_holds_47 : decode cX8_holds 47 = .ok (.ireturn, 1) := by decide +kernel
theorem zc_135 {d : Nat} {h : List zx_C} {w : Int32} {Q : Option zx_V → List zx_C → Prop} (hI : zx_I h)    (hq : ∀ (v : Int32) (h2 : List zx_C), zx_I h2 → (∀ i, i ∉ ([] : List Nat) → h2[i]? = h[i]?) → Q (some (.inl v)) h2) : zx_M (d + 1) 135 [.inr (.inr (1, 63)), .inl w] h Q := by
  have el_m1 : ((-1) : Int32).toInt = -1 := by decide
  have el_0 : (0 : Int32).toInt = 0 := by decide
  have el_1 : (1 : Int32).toInt = 1 := by decide
  have el_100 : (100 : Int32).toInt = 100 := by decide
  obtain ⟨x1, c63_1, m_furlongs1, m_many1, m_bagged1, m_legs1, m_most1, m_nap1, m_on1, m_biscuits1, m_races1, m_worn1, m_here1, m_minutes1, m_seed1, m_fault1, m_base1, m_at1, m_end1, m_number1, m_wrongAt1, m_bestMany1, m_bestHere1, m_bestWorn1, m_bestMinutes1, m_turn1, m_ever1, m_made1, m_ruleHere1, m_ruleMinutes1, m_ruleEver1, m_ran1, m_isKept1, rfl, q0_1, q1_1, q2_1, q3_1, q4_1, q5_1, q6_1, q7_1, q8_1⟩ := zi_g hI 63 (by decide)
  obtain ⟨x2, c70_2, f70_2, rfl, l70_2, b70_2⟩ := zi_g hI 70 (by decide)
  obtain ⟨x3, c71_3, f71_3, rfl, l71_3⟩ := zi_g hI 71 (by decide)
  obtain ⟨x4, c73_4, f73_4, rfl, l73_4⟩ := zi_g hI 73 (by decide)
  have fr0 : ∀ i, i ∉ ([] : List Nat) → h[i]? = h[i]? := fun _ _ => rfl
  refine zx_M_of (Nat.le_of_ble_eq_true rfl) zm_135 (L := [some (.inr (.inr (1, 63))), some (.inl w)]) rfl ?_
  refine zx_W_ins (pc' := 1) dX8_holds_0 rfl (fun _ => rfl) rfl ?_
  refine zx_W_ins (pc' := 2) dX8_holds_1 rfl (fun _ => rfl) rfl ?_
  refine zw_iv (k := 127) (pc' := 5) dX8_holds_2 rfl rfl rfl rfl c63_1 rfl rfl (zc_127 (fun g5 _ => ?_) (fun g5 _ => ?_))
  · show zx_W _ _ _ _ _ _ _ [.inl 1] _ _
    refine zw_if_eq (tgt := 17) (pc' := 8) dX8_holds_5 rfl rfl (fun g => by first | exact absurd rfl g | exact absurd g (by decide)) (fun _ => ?_)
    refine zx_W_ins (pc' := 9) dX8_holds_8 rfl (fun _ => rfl) rfl ?_
    refine zw_gf (pc' := 12) dX8_holds_9 rfl rfl c63_1 rfl ?_
    refine zx_W_ins (pc' := 13) dX8_holds_12 rfl (fun _ => rfl) rfl ?_
    refine zw_ial (pc' := 14) dX8_holds_13 rfl c70_2 (zi_in (by have := l70_2; omega)) ?_
    have bb7 := b70_2 w.toNatClampNeg (by have := (zi_in (x := w) (n := 8) (by omega)).2; omega)
    refine zw_if_ne (tgt := 19) (pc' := 17) dX8_holds_14 rfl rfl (fun g8 => ?_) (fun g8 => ?_)
    · have g8t : ¬ ((f70_2.getD w.toNatClampNeg 0)).toInt = (0 : Int32).toInt := fun z => g8 (Int32.toInt_inj.mp z)
      refine zx_W_ins (pc' := 20) dX8_holds_19 rfl (fun _ => rfl) rfl ?_
      refine zw_gf (pc' := 23) dX8_holds_20 rfl rfl c63_1 rfl ?_
      refine zx_W_ins (pc' := 24) dX8_holds_23 rfl (fun _ => rfl) rfl ?_
      refine zw_ial (pc' := 25) dX8_holds_24 rfl c70_2 (zi_in (by have := l70_2; omega)) ?_
      have bb9 := b70_2 w.toNatClampNeg (by have := (zi_in (x := w) (n := 8) (by omega)).2; omega)
      refine zw_ic (v := 1) (pc' := 26) dX8_holds_25 rfl rfl ?_
      refine zw_icmp_ne (tgt := 41) (pc' := 29) dX8_holds_26 rfl rfl (fun g10 => ?_) (fun g10 => ?_)
      · have g10t : ¬ ((f70_2.getD w.toNatClampNeg 0)).toInt = (1 : Int32).toInt := fun z => g10 (Int32.toInt_inj.mp z)
        refine zx_W_ins (pc' := 42) dX8_holds_41 rfl (fun _ => rfl) rfl ?_
        refine zw_gf (pc' := 45) dX8_holds_42 rfl rfl c63_1 rfl ?_
        refine zx_W_ins (pc' := 46) dX8_holds_45 rfl (fun _ => rfl) rfl ?_
        refine zw_ial (pc' := 47) dX8_holds_46 rfl c73_4 (zi_in (by have := l73_4; omega)) ?_
        refine zw_iret dX8_holds_47 rfl rfl ?_
        exact hq _ h hI fr0
      · have g10t : ((f70_2.getD w.toNatClampNeg 0)).toInt = (1 : Int32).toInt := congrArg Int32.toInt g10
        refine zw_bi (v := 100) (pc' := 31) dX8_holds_29 rfl rfl ?_
        refine zx_W_ins (pc' := 32) dX8_holds_31 rfl (fun _ => rfl) rfl ?_
        refine zw_gf (pc' := 35) dX8_holds_32 rfl rfl c63_1 rfl ?_
        refine zx_W_ins (pc' := 36) dX8_holds_35 rfl (fun _ => rfl) rfl ?_
        refine zw_ial (pc' := 37) dX8_holds_36 rfl c71_3 (zi_in (by have := l71_3; omega)) ?_
        refine zx_W_ins (pc' := 38) dX8_holds_37 rfl (fun _ => rfl) rfl ?_
        refine zw_goto (tgt := 47) dX8_holds_38 rfl ?_
        refine zw_iret dX8_holds_47 rfl rfl ?_
        exact hq _ h hI fr0
    · have g8t : ((f70_2.getD w.toNatClampNeg 0)).toInt = (0 : Int32).toInt := congrArg Int32.toInt g8
      refine zw_ic (v := (-1)) (pc' := 18) dX8_holds_17 rfl rfl ?_
      refine zw_iret dX8_holds_18 rfl rfl ?_
      exact hq _ h hI fr0
  · show zx_W _ _ _ _ _ _ _ [.inl 0] _ _
    refine zw_if_eq (tgt := 17) (pc' := 8) dX8_holds_5 rfl rfl (fun _ => ?_) (fun g => by first | exact absurd rfl g | exact absurd g (by decide))
    refine zw_ic (v := (-1)) (pc' := 18) dX8_holds_17 rfl rfl ?_
    refine zw_iret dX8_holds_18 rfl rfl ?_
    exact hq _ h hI fr0
