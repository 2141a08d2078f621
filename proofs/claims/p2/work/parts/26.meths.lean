/-! part 26: what may be, loads: laid by wip/p2/meths.py -/
def zt_51 : zx_MT := (5, yX5_loadOnSlope, cX5_loadOnSlope, 5, (some FieldType.int), 2, 0)
theorem zm_51 : zx_m 51 = zt_51 := rfl
theorem dX5_loadOnSlope_0 : decode cX5_loadOnSlope 0 = .ok (.aload_n 0, 1) := by decide +kernel
theorem dX5_loadOnSlope_1 : decode cX5_loadOnSlope 1 = .ok (.getfield 49, 3) := by decide +kernel
theorem dX5_loadOnSlope_4 : decode cX5_loadOnSlope 4 = .ok (.getfield 59, 3) := by decide +kernel
theorem dX5_loadOnSlope_7 : decode cX5_loadOnSlope 7 = .ok (.iload_n 1, 1) := by decide +kernel
theorem dX5_loadOnSlope_8 : decode cX5_loadOnSlope 8 = .ok (.iaload, 1) := by decide +kernel
theorem dX5_loadOnSlope_9 : decode cX5_loadOnSlope 9 = .ok (.istore_n 3, 1) := by decide +kernel
theorem dX5_loadOnSlope_10 : decode cX5_loadOnSlope 10 = .ok (.iconst 4, 1) := by decide +kernel
theorem dX5_loadOnSlope_11 : decode cX5_loadOnSlope 11 = .ok (.iload_n 2, 1) := by decide +kernel
theorem dX5_loadOnSlope_12 : decode cX5_loadOnSlope 12 = .ok (.iadd, 1) := by decide +kernel
theorem dX5_loadOnSlope_13 : decode cX5_loadOnSlope 13 = .ok (.getstatic 82, 3) := by decide +kernel
theorem dX5_loadOnSlope_16 : decode cX5_loadOnSlope 16 = .ok (.iload_n 3, 1) := by decide +kernel
theorem dX5_loadOnSlope_17 : decode cX5_loadOnSlope 17 = .ok (.iaload, 1) := by decide +kernel
theorem dX5_loadOnSlope_18 : decode cX5_loadOnSlope 18 = .ok (.iadd, 1) := by decide +kernel
theorem dX5_loadOnSlope_19 : decode cX5_loadOnSlope 19 = .ok (.istore 4, 2) := by decide +kernel
theorem dX5_loadOnSlope_21 : decode cX5_loadOnSlope 21 = .ok (.iload_n 3, 1) := by decide +kernel
theorem dX5_loadOnSlope_22 : decode cX5_loadOnSlope 22 = .ok (.bipush 6, 2) := by decide +kernel
theorem dX5_loadOnSlope_24 : decode cX5_loadOnSlope 24 = .ok (.if_icmp .ne 17, 3) := by decide +kernel
theorem dX5_loadOnSlope_27 : decode cX5_loadOnSlope 27 = .ok (.iload 4, 2) := by decide +kernel
theorem dX5_loadOnSlope_29 : decode cX5_loadOnSlope 29 = .ok (.aload_n 0, 1) := by decide +kernel
theorem dX5_loadOnSlope_30 : decode cX5_loadOnSlope 30 = .ok (.getfield 9, 3) := by decide +kernel
theorem dX5_loadOnSlope_33 : decode cX5_loadOnSlope 33 = .ok (.iload_n 1, 1) := by decide +kernel
theorem dX5_loadOnSlope_34 : decode cX5_loadOnSlope 34 = .ok (.iaload, 1) := by decide +kernel
theorem dX5_loadOnSlope_35 : decode cX5_loadOnSlope 35 = .ok (.bipush 10, 2) := by decide +kernel
theorem dX5_loadOnSlope_37 : decode cX5_loadOnSlope 37 = .ok (.idiv, 1) := by decide +kernel
theorem dX5_loadOnSlope_38 : decode cX5_loadOnSlope 38 = .ok (.iadd, 1) := by decide +kernel
theorem dX5_loadOnSlope_39 : decode cX5_loadOnSlope 39 = .ok (.istore 4, 2) := by decide +kernel
theorem dX5_loadOnSlope_41 : decode cX5_loadOnSlope 41 = .ok (.aload_n 0, 1) := by decide +kernel
theorem dX5_loadOnSlope_42 : decode cX5_loadOnSlope 42 = .ok (.getfield 15, 3) := by decide +kernel
theorem dX5_loadOnSlope_45 : decode cX5_loadOnSlope 45 = .ok (.iload_n 1, 1) := by decide +kernel
theorem dX5_loadOnSlope_46 : decode cX5_loadOnSlope 46 = .ok (.if_icmp .ne 6, 3) := by decide +kernel
theorem dX5_loadOnSlope_49 : decode cX5_loadOnSlope 49 = .ok (.iinc 4 2, 3) := by decide +kernel
theorem dX5_loadOnSlope_52 : decode cX5_loadOnSlope 52 = .ok (.iload 4, 2) := by decide +kernel
theorem dX5_loadOnSlope_54 : decode cX5_loadOnSlope 54 = .ok (.iconst 1, 1) := by decide +kernel
theorem dX5_loadOnSlope_55 : decode cX5_loadOnSlope 55 = .ok (.if_icmp .ge 7, 3) := by decide +kernel
theorem dX5_loadOnSlope_58 : decode cX5_loadOnSlope 58 = .ok (.iconst 1, 1) := by decide +kernel
theorem dX5_loadOnSlope_59 : decode cX5_loadOnSlope 59 = .ok (.goto 5, 3) := by decide +kernel
theorem dX5_loadOnSlope_62 : decode cX5_loadOnSlope 62 = .ok (.iload 4, 2) := by decide +kernel
theorem dX5_loadOnSlope_64 : decode cX5_loadOnSlope 64 = .ok (.ireturn, 1) := by decide +kernel
theorem zc_load_2 {d : Nat} {h : List zx_C} {q : Int32} {w : Int32} {Q : Option zx_V → List zx_C → Prop} (hI : zx_I h)   (hw : 0 ≤ q.toInt ∧ q.toInt < 6) (hq : ∀ (v : Int32) (h2 : List zx_C), zx_I h2 → (∀ i, i ∉ ([] : List Nat) → h2[i]? = h[i]?) → Q (some (.inl v)) h2) : zx_M (d) 51 [.inr (.inr (1, 2)), .inl q, .inl w] h Q := by
  have el_1 : (1 : Int32).toInt = 1 := by decide
  have el_2 : (2 : Int32).toInt = 2 := by decide
  have el_4 : (4 : Int32).toInt = 4 := by decide
  have el_6 : (6 : Int32).toInt = 6 := by decide
  have el_10 : (10 : Int32).toInt = 10 := by decide
  obtain ⟨x1, c2_1, bg1, mo1, le1, na1, on1, bi1, ra1, wo1, he1, mi1, se1, rfl, hh1, hk1⟩ := zi_g hI 2 (by decide)
  obtain ⟨x2, c3_2, fu2, pe2, rfl, hf2, hg2, hp2, hq2⟩ := zi_g hI 3 (by decide)
  obtain ⟨x3, c6_3, f6_3, rfl, l6_3, b6_3⟩ := zi_g hI 6 (by decide)
  obtain ⟨x4, c8_4, f8_4, rfl, l8_4⟩ := zi_g hI 8 (by decide)
  have fr0 : ∀ i, i ∉ ([] : List Nat) → h[i]? = h[i]? := fun _ _ => rfl
  refine zx_M_of (Nat.le_of_ble_eq_true rfl) zm_51 (L := [some (.inr (.inr (1, 2))), some (.inl q), some (.inl w), none, none]) rfl ?_
  refine zx_W_ins (pc' := 1) dX5_loadOnSlope_0 rfl (fun _ => rfl) rfl ?_
  refine zw_gf (pc' := 4) dX5_loadOnSlope_1 rfl rfl c2_1 rfl ?_
  refine zw_gf (pc' := 7) dX5_loadOnSlope_4 rfl rfl c3_2 rfl ?_
  refine zx_W_ins (pc' := 8) dX5_loadOnSlope_7 rfl (fun _ => rfl) rfl ?_
  refine zw_ial (pc' := 9) dX5_loadOnSlope_8 rfl c6_3 (zi_in (by have := l6_3; omega)) ?_
  have bb5 := b6_3 q.toNatClampNeg (by have := (zi_in (x := q) (n := 6) (by omega)).2; omega)
  refine zx_W_ins (pc' := 10) (L' := [some (.inr (.inr (1, 2))), some (.inl q), some (.inl w), some (.inl (f6_3.getD q.toNatClampNeg 0)), none]) dX5_loadOnSlope_9 rfl (fun _ => rfl) rfl ?_
  refine zw_ic (v := 4) (pc' := 11) dX5_loadOnSlope_10 rfl rfl ?_
  refine zx_W_ins (pc' := 12) dX5_loadOnSlope_11 rfl (fun _ => rfl) rfl ?_
  refine zx_W_ins (pc' := 13) dX5_loadOnSlope_12 rfl (fun _ => rfl) rfl ?_
  refine zw_gs (pc' := 16) dX5_loadOnSlope_13 rfl rfl (by decide) ?_
  refine zx_W_ins (pc' := 17) dX5_loadOnSlope_16 rfl (fun _ => rfl) rfl ?_
  refine zw_ials (pc' := 18) dX5_loadOnSlope_17 rfl ⟨by decide, zi_in (n := 7) (by omega)⟩ ?_
  refine zx_W_ins (pc' := 19) dX5_loadOnSlope_18 rfl (fun _ => rfl) rfl ?_
  refine zx_W_ins (pc' := 21) (L' := [some (.inr (.inr (1, 2))), some (.inl q), some (.inl w), some (.inl (f6_3.getD q.toNatClampNeg 0)), some (.inl ((4 + w) + ((zx_sa.getD 1 []).getD (f6_3.getD q.toNatClampNeg 0).toNatClampNeg 0)))]) dX5_loadOnSlope_19 rfl (fun _ => rfl) rfl ?_
  refine zx_W_ins (pc' := 22) dX5_loadOnSlope_21 rfl (fun _ => rfl) rfl ?_
  refine zw_bi (v := 6) (pc' := 24) dX5_loadOnSlope_22 rfl rfl ?_
  refine zw_icmp_ne (tgt := 41) (pc' := 27) dX5_loadOnSlope_24 rfl rfl (fun g6 => ?_) (fun g6 => ?_)
  · have g6t : ¬ ((f6_3.getD q.toNatClampNeg 0)).toInt = (6 : Int32).toInt := fun z => g6 (Int32.toInt_inj.mp z)
    refine zx_W_ins (pc' := 42) dX5_loadOnSlope_41 rfl (fun _ => rfl) rfl ?_
    refine zw_gf (pc' := 45) dX5_loadOnSlope_42 rfl rfl c2_1 rfl ?_
    refine zx_W_ins (pc' := 46) dX5_loadOnSlope_45 rfl (fun _ => rfl) rfl ?_
    refine zw_icmp_ne (tgt := 52) (pc' := 49) dX5_loadOnSlope_46 rfl rfl (fun g7 => ?_) (fun g7 => ?_)
    · have g7t : ¬ (bg1).toInt = (q : Int32).toInt := fun z => g7 (Int32.toInt_inj.mp z)
      refine zx_W_ins (pc' := 54) dX5_loadOnSlope_52 rfl (fun _ => rfl) rfl ?_
      refine zw_ic (v := 1) (pc' := 55) dX5_loadOnSlope_54 rfl rfl ?_
      refine zw_icmp_ge (tgt := 62) (pc' := 58) dX5_loadOnSlope_55 rfl rfl (fun g8 => ?_) (fun g8 => ?_)
      · refine zx_W_ins (pc' := 64) dX5_loadOnSlope_62 rfl (fun _ => rfl) rfl ?_
        refine zw_iret dX5_loadOnSlope_64 rfl rfl ?_
        exact hq _ h hI fr0
      · refine zw_ic (v := 1) (pc' := 59) dX5_loadOnSlope_58 rfl rfl ?_
        refine zw_goto (tgt := 64) dX5_loadOnSlope_59 rfl ?_
        refine zw_iret dX5_loadOnSlope_64 rfl rfl ?_
        exact hq _ h hI fr0
    · have g7t : (bg1).toInt = (q : Int32).toInt := congrArg Int32.toInt g7
      refine zx_W_ins (pc' := 52) (L' := [some (.inr (.inr (1, 2))), some (.inl q), some (.inl w), some (.inl (f6_3.getD q.toNatClampNeg 0)), some (.inl (((4 + w) + ((zx_sa.getD 1 []).getD (f6_3.getD q.toNatClampNeg 0).toNatClampNeg 0)) + 2))]) dX5_loadOnSlope_49 rfl (fun _ => rfl) rfl ?_
      refine zx_W_ins (pc' := 54) dX5_loadOnSlope_52 rfl (fun _ => rfl) rfl ?_
      refine zw_ic (v := 1) (pc' := 55) dX5_loadOnSlope_54 rfl rfl ?_
      refine zw_icmp_ge (tgt := 62) (pc' := 58) dX5_loadOnSlope_55 rfl rfl (fun g9 => ?_) (fun g9 => ?_)
      · refine zx_W_ins (pc' := 64) dX5_loadOnSlope_62 rfl (fun _ => rfl) rfl ?_
        refine zw_iret dX5_loadOnSlope_64 rfl rfl ?_
        exact hq _ h hI fr0
      · refine zw_ic (v := 1) (pc' := 59) dX5_loadOnSlope_58 rfl rfl ?_
        refine zw_goto (tgt := 64) dX5_loadOnSlope_59 rfl ?_
        refine zw_iret dX5_loadOnSlope_64 rfl rfl ?_
        exact hq _ h hI fr0
  · have g6t : ((f6_3.getD q.toNatClampNeg 0)).toInt = (6 : Int32).toInt := congrArg Int32.toInt g6
    refine zx_W_ins (pc' := 29) dX5_loadOnSlope_27 rfl (fun _ => rfl) rfl ?_
    refine zx_W_ins (pc' := 30) dX5_loadOnSlope_29 rfl (fun _ => rfl) rfl ?_
    refine zw_gf (pc' := 33) dX5_loadOnSlope_30 rfl rfl c2_1 rfl ?_
    refine zx_W_ins (pc' := 34) dX5_loadOnSlope_33 rfl (fun _ => rfl) rfl ?_
    refine zw_ial (pc' := 35) dX5_loadOnSlope_34 rfl c8_4 (zi_in (by have := l8_4; omega)) ?_
    refine zw_bi (v := 10) (pc' := 37) dX5_loadOnSlope_35 rfl rfl ?_
    refine zw_div (pc' := 38) dX5_loadOnSlope_37 rfl (by decide) ?_
    refine zx_W_ins (pc' := 39) dX5_loadOnSlope_38 rfl (fun _ => rfl) rfl ?_
    refine zx_W_ins (pc' := 41) (L' := [some (.inr (.inr (1, 2))), some (.inl q), some (.inl w), some (.inl (f6_3.getD q.toNatClampNeg 0)), some (.inl (((4 + w) + ((zx_sa.getD 1 []).getD (f6_3.getD q.toNatClampNeg 0).toNatClampNeg 0)) + ((f8_4.getD q.toNatClampNeg 0) / 10)))]) dX5_loadOnSlope_39 rfl (fun _ => rfl) rfl ?_
    refine zx_W_ins (pc' := 42) dX5_loadOnSlope_41 rfl (fun _ => rfl) rfl ?_
    refine zw_gf (pc' := 45) dX5_loadOnSlope_42 rfl rfl c2_1 rfl ?_
    refine zx_W_ins (pc' := 46) dX5_loadOnSlope_45 rfl (fun _ => rfl) rfl ?_
    refine zw_icmp_ne (tgt := 52) (pc' := 49) dX5_loadOnSlope_46 rfl rfl (fun g10 => ?_) (fun g10 => ?_)
    · have g10t : ¬ (bg1).toInt = (q : Int32).toInt := fun z => g10 (Int32.toInt_inj.mp z)
      refine zx_W_ins (pc' := 54) dX5_loadOnSlope_52 rfl (fun _ => rfl) rfl ?_
      refine zw_ic (v := 1) (pc' := 55) dX5_loadOnSlope_54 rfl rfl ?_
      refine zw_icmp_ge (tgt := 62) (pc' := 58) dX5_loadOnSlope_55 rfl rfl (fun g11 => ?_) (fun g11 => ?_)
      · refine zx_W_ins (pc' := 64) dX5_loadOnSlope_62 rfl (fun _ => rfl) rfl ?_
        refine zw_iret dX5_loadOnSlope_64 rfl rfl ?_
        exact hq _ h hI fr0
      · refine zw_ic (v := 1) (pc' := 59) dX5_loadOnSlope_58 rfl rfl ?_
        refine zw_goto (tgt := 64) dX5_loadOnSlope_59 rfl ?_
        refine zw_iret dX5_loadOnSlope_64 rfl rfl ?_
        exact hq _ h hI fr0
    · have g10t : (bg1).toInt = (q : Int32).toInt := congrArg Int32.toInt g10
      refine zx_W_ins (pc' := 52) (L' := [some (.inr (.inr (1, 2))), some (.inl q), some (.inl w), some (.inl (f6_3.getD q.toNatClampNeg 0)), some (.inl ((((4 + w) + ((zx_sa.getD 1 []).getD (f6_3.getD q.toNatClampNeg 0).toNatClampNeg 0)) + ((f8_4.getD q.toNatClampNeg 0) / 10)) + 2))]) dX5_loadOnSlope_49 rfl (fun _ => rfl) rfl ?_
      refine zx_W_ins (pc' := 54) dX5_loadOnSlope_52 rfl (fun _ => rfl) rfl ?_
      refine zw_ic (v := 1) (pc' := 55) dX5_loadOnSlope_54 rfl rfl ?_
      refine zw_icmp_ge (tgt := 62) (pc' := 58) dX5_loadOnSlope_55 rfl rfl (fun g12 => ?_) (fun g12 => ?_)
      · refine zx_W_ins (pc' := 64) dX5_loadOnSlope_62 rfl (fun _ => rfl) rfl ?_
        refine zw_iret dX5_loadOnSlope_64 rfl rfl ?_
        exact hq _ h hI fr0
      · refine zw_ic (v := 1) (pc' := 59) dX5_loadOnSlope_58 rfl rfl ?_
        refine zw_goto (tgt := 64) dX5_loadOnSlope_59 rfl ?_
        refine zw_iret dX5_loadOnSlope_64 rfl rfl ?_
        exact hq _ h hI fr0
def zt_84 : zx_MT := (7, yX7_load, cX7_load, 3, (some FieldType.int), 2, 0)
theorem zm_84 : zx_m 84 = zt_84 := rfl
theorem dX7_load_0 : decode cX7_load 0 = .ok (.aload_n 0, 1) := by decide +kernel
theorem dX7_load_1 : decode cX7_load 1 = .ok (.getfield 23, 3) := by decide +kernel
theorem dX7_load_4 : decode cX7_load 4 = .ok (.getfield 30, 3) := by decide +kernel
theorem dX7_load_7 : decode cX7_load 7 = .ok (.iload_n 1, 1) := by decide +kernel
theorem dX7_load_8 : decode cX7_load 8 = .ok (.invokevirtual 118, 3) := by decide +kernel
theorem dX7_load_11 : decode cX7_load 11 = .ok (.ifCond .ne 9, 3) := by decide +kernel
theorem dX7_load_14 : decode cX7_load 14 = .ok (.aload_n 0, 1) := by decide +kernel
theorem dX7_load_15 : decode cX7_load 15 = .ok (.iconst 1, 1) := by decide +kernel
theorem dX7_load_16 : decode cX7_load 16 = .ok (.invokevirtual 82, 3) := by decide +kernel
theorem dX7_load_19 : decode cX7_load 19 = .ok (.ireturn, 1) := by decide +kernel
theorem dX7_load_20 : decode cX7_load 20 = .ok (.aload_n 0, 1) := by decide +kernel
theorem dX7_load_21 : decode cX7_load 21 = .ok (.getfield 23, 3) := by decide +kernel
theorem dX7_load_24 : decode cX7_load 24 = .ok (.getfield 30, 3) := by decide +kernel
theorem dX7_load_27 : decode cX7_load 27 = .ok (.iload_n 2, 1) := by decide +kernel
theorem dX7_load_28 : decode cX7_load 28 = .ok (.invokevirtual 159, 3) := by decide +kernel
theorem dX7_load_31 : decode cX7_load 31 = .ok (.ifCond .ne 9, 3) := by decide +kernel
theorem dX7_load_34 : decode cX7_load 34 = .ok (.aload_n 0, 1) := by decide +kernel
theorem dX7_load_35 : decode cX7_load 35 = .ok (.iconst 5, 1) := by decide +kernel
theorem dX7_load_36 : decode cX7_load 36 = .ok (.invokevirtual 82, 3) := by decide +kernel
theorem dX7_load_39 : decode cX7_load 39 = .ok (.ireturn, 1) := by decide +kernel
theorem dX7_load_40 : decode cX7_load 40 = .ok (.aload_n 0, 1) := by decide +kernel
theorem dX7_load_41 : decode cX7_load 41 = .ok (.getfield 23, 3) := by decide +kernel
theorem dX7_load_44 : decode cX7_load 44 = .ok (.iload_n 1, 1) := by decide +kernel
theorem dX7_load_45 : decode cX7_load 45 = .ok (.aload_n 0, 1) := by decide +kernel
theorem dX7_load_46 : decode cX7_load 46 = .ok (.getfield 23, 3) := by decide +kernel
theorem dX7_load_49 : decode cX7_load 49 = .ok (.getfield 30, 3) := by decide +kernel
theorem dX7_load_52 : decode cX7_load 52 = .ok (.getfield 165, 3) := by decide +kernel
theorem dX7_load_55 : decode cX7_load 55 = .ok (.iload_n 2, 1) := by decide +kernel
theorem dX7_load_56 : decode cX7_load 56 = .ok (.iaload, 1) := by decide +kernel
theorem dX7_load_57 : decode cX7_load 57 = .ok (.invokevirtual 140, 3) := by decide +kernel
theorem dX7_load_60 : decode cX7_load 60 = .ok (.ireturn, 1) := by decide +kernel
theorem zc_84 {d : Nat} {h : List zx_C} {q : Int32} {w : Int32} {Q : Option zx_V → List zx_C → Prop} (hI : zx_I h)    (hq : ∀ (v : Int32) (h2 : List zx_C), zx_I h2 → (∀ i, i ∉ ([46] : List Nat) → h2[i]? = h[i]?) → Q (some (.inl v)) h2) : zx_M (d + 1) 84 [.inr (.inr (1, 0)), .inl q, .inl w] h Q := by
  have el_1 : (1 : Int32).toInt = 1 := by decide
  have el_5 : (5 : Int32).toInt = 5 := by decide
  obtain ⟨x1, c0_1, it1, lf1, rfl, hit1⟩ := zi_g hI 0 (by decide)
  obtain ⟨x2, c2_2, bg2, mo2, le2, na2, on2, bi2, ra2, wo2, he2, mi2, se2, rfl, hh2, hk2⟩ := zi_g hI 2 (by decide)
  obtain ⟨x3, c3_3, fu3, pe3, rfl, hf3, hg3, hp3, hq3⟩ := zi_g hI 3 (by decide)
  obtain ⟨x4, c4_4, f4_4, rfl, l4_4⟩ := zi_g hI 4 (by decide)
  have fr0 : ∀ i, i ∉ ([46] : List Nat) → h[i]? = h[i]? := fun _ _ => rfl
  refine zx_M_of (Nat.le_of_ble_eq_true rfl) zm_84 (L := [some (.inr (.inr (1, 0))), some (.inl q), some (.inl w)]) rfl ?_
  refine zx_W_ins (pc' := 1) dX7_load_0 rfl (fun _ => rfl) rfl ?_
  refine zw_gf (pc' := 4) dX7_load_1 rfl rfl c0_1 rfl ?_
  refine zw_gf (pc' := 7) dX7_load_4 rfl rfl c2_2 rfl ?_
  refine zx_W_ins (pc' := 8) dX7_load_7 rfl (fun _ => rfl) rfl ?_
  refine zw_iv (k := 65) (pc' := 11) dX7_load_8 rfl rfl rfl rfl c3_3 rfl rfl (zc_65 c3_3 (fun g5 _ => ?_) (fun g5 _ => ?_))
  · show zx_W _ _ _ _ _ _ _ [.inl 1] _ _
    refine zw_if_ne (tgt := 20) (pc' := 14) dX7_load_11 rfl rfl (fun _ => ?_) (fun g => by first | exact absurd rfl g | exact absurd g (by decide))
    refine zx_W_ins (pc' := 21) dX7_load_20 rfl (fun _ => rfl) rfl ?_
    refine zw_gf (pc' := 24) dX7_load_21 rfl rfl c0_1 rfl ?_
    refine zw_gf (pc' := 27) dX7_load_24 rfl rfl c2_2 rfl ?_
    refine zx_W_ins (pc' := 28) dX7_load_27 rfl (fun _ => rfl) rfl ?_
    refine zw_iv (k := 64) (pc' := 31) dX7_load_28 rfl rfl rfl rfl c3_3 rfl rfl (zc_64 c3_3 (fun g7 _ => ?_) (fun g7 _ => ?_))
    · show zx_W _ _ _ _ _ _ _ [.inl 1] _ _
      refine zw_if_ne (tgt := 40) (pc' := 34) dX7_load_31 rfl rfl (fun _ => ?_) (fun g => by first | exact absurd rfl g | exact absurd g (by decide))
      refine zx_W_ins (pc' := 41) dX7_load_40 rfl (fun _ => rfl) rfl ?_
      refine zw_gf (pc' := 44) dX7_load_41 rfl rfl c0_1 rfl ?_
      refine zx_W_ins (pc' := 45) dX7_load_44 rfl (fun _ => rfl) rfl ?_
      refine zx_W_ins (pc' := 46) dX7_load_45 rfl (fun _ => rfl) rfl ?_
      refine zw_gf (pc' := 49) dX7_load_46 rfl rfl c0_1 rfl ?_
      refine zw_gf (pc' := 52) dX7_load_49 rfl rfl c2_2 rfl ?_
      refine zw_gf (pc' := 55) dX7_load_52 rfl rfl c3_3 rfl ?_
      refine zx_W_ins (pc' := 56) dX7_load_55 rfl (fun _ => rfl) rfl ?_
      refine zw_ial (pc' := 57) dX7_load_56 rfl c4_4 (zi_in (by have := l4_4; omega)) ?_
      refine zw_iv (k := 51) (pc' := 60) dX7_load_57 rfl rfl rfl rfl c2_2 rfl rfl (zc_load_2 hI (by omega) (fun v9 h10 hI11 fr12 _ => ?_))
      show zx_W _ _ _ _ _ _ _ [.inl v9] _ _
      have fr13 : ∀ i, i ∉ ([46] : List Nat) → h10[i]? = h[i]? := fun i hi => Eq.trans (fr12 i (fun z => hi (by first | exact absurd z List.not_mem_nil | (simp only [List.mem_cons, List.not_mem_nil, or_false] at z ⊢; omega)))) (fr0 i hi)
      have c14 : h10[0]? = some (.inl (7, [.inr (.inr (1, 1)), .inr (.inr (1, 2)), .inr (.inr (1, 9)), .inr (.inr (1, 16)), .inr (.inr (1, 18)), .inr (.inr (1, 21)), .inr (.inr (1, 35)), .inr (.inr (1, 44)), .inr (.inr (1, 46)), .inl it1, .inl lf1])) := by rw [fr12 0 (by decide)]; exact c0_1
      have c15 : h10[2]? = some (.inl (5, [.inr (.inr (1, 3)), .inr (.inr (1, 8)), .inl bg2, .inl mo2, .inl le2, .inl na2, .inl on2, .inl bi2, .inl ra2, .inl wo2, .inl he2, .inl mi2, .inl se2])) := by rw [fr12 2 (by decide)]; exact c2_2
      have c16 : h10[3]? = some (.inl (6, [.inr (.inr (1, 4)), .inr (.inr (1, 5)), .inr (.inr (1, 6)), .inr (.inr (1, 7)), .inl fu3, .inl pe3])) := by rw [fr12 3 (by decide)]; exact c3_3
      have c17 : h10[4]? = some (.inr (0, .inl f4_4)) := by rw [fr12 4 (by decide)]; exact c4_4
      refine zw_iret dX7_load_60 rfl rfl ?_
      exact hq _ h10 hI11 fr13
    · show zx_W _ _ _ _ _ _ _ [.inl 0] _ _
      refine zw_if_ne (tgt := 40) (pc' := 34) dX7_load_31 rfl rfl (fun g => by first | exact absurd rfl g | exact absurd g (by decide)) (fun _ => ?_)
      refine zx_W_ins (pc' := 35) dX7_load_34 rfl (fun _ => rfl) rfl ?_
      refine zw_ic (v := 5) (pc' := 36) dX7_load_35 rfl rfl ?_
      refine zw_iv (k := 109) (pc' := 39) dX7_load_36 rfl rfl rfl rfl c0_1 rfl rfl (zc_109 hI (by omega) (fun v19 h20 hI21 fr22 hvv19 _ => ?_))
      show zx_W _ _ _ _ _ _ _ [.inl v19] _ _
      have fr23 : ∀ i, i ∉ ([46] : List Nat) → h20[i]? = h[i]? := fun i hi => Eq.trans (fr22 i (fun z => hi (by first | exact absurd z List.not_mem_nil | (simp only [List.mem_cons, List.not_mem_nil, or_false] at z ⊢; omega)))) (fr0 i hi)
      have c24 : h20[0]? = some (.inl (7, [.inr (.inr (1, 1)), .inr (.inr (1, 2)), .inr (.inr (1, 9)), .inr (.inr (1, 16)), .inr (.inr (1, 18)), .inr (.inr (1, 21)), .inr (.inr (1, 35)), .inr (.inr (1, 44)), .inr (.inr (1, 46)), .inl it1, .inl lf1])) := by rw [fr22 0 (by decide)]; exact c0_1
      have c25 : h20[2]? = some (.inl (5, [.inr (.inr (1, 3)), .inr (.inr (1, 8)), .inl bg2, .inl mo2, .inl le2, .inl na2, .inl on2, .inl bi2, .inl ra2, .inl wo2, .inl he2, .inl mi2, .inl se2])) := by rw [fr22 2 (by decide)]; exact c2_2
      have c26 : h20[3]? = some (.inl (6, [.inr (.inr (1, 4)), .inr (.inr (1, 5)), .inr (.inr (1, 6)), .inr (.inr (1, 7)), .inl fu3, .inl pe3])) := by rw [fr22 3 (by decide)]; exact c3_3
      have c27 : h20[4]? = some (.inr (0, .inl f4_4)) := by rw [fr22 4 (by decide)]; exact c4_4
      obtain ⟨x28, c46_28, f46_28, rfl, l46_28⟩ := zi_g hI21 46 (by decide)
      refine zw_iret dX7_load_39 rfl rfl ?_
      exact hq _ h20 hI21 fr23
  · show zx_W _ _ _ _ _ _ _ [.inl 0] _ _
    refine zw_if_ne (tgt := 20) (pc' := 14) dX7_load_11 rfl rfl (fun g => by first | exact absurd rfl g | exact absurd g (by decide)) (fun _ => ?_)
    refine zx_W_ins (pc' := 15) dX7_load_14 rfl (fun _ => rfl) rfl ?_
    refine zw_ic (v := 1) (pc' := 16) dX7_load_15 rfl rfl ?_
    refine zw_iv (k := 109) (pc' := 19) dX7_load_16 rfl rfl rfl rfl c0_1 rfl rfl (zc_109 hI (by omega) (fun v30 h31 hI32 fr33 hvv30 _ => ?_))
    show zx_W _ _ _ _ _ _ _ [.inl v30] _ _
    have fr34 : ∀ i, i ∉ ([46] : List Nat) → h31[i]? = h[i]? := fun i hi => Eq.trans (fr33 i (fun z => hi (by first | exact absurd z List.not_mem_nil | (simp only [List.mem_cons, List.not_mem_nil, or_false] at z ⊢; omega)))) (fr0 i hi)
    have c35 : h31[0]? = some (.inl (7, [.inr (.inr (1, 1)), .inr (.inr (1, 2)), .inr (.inr (1, 9)), .inr (.inr (1, 16)), .inr (.inr (1, 18)), .inr (.inr (1, 21)), .inr (.inr (1, 35)), .inr (.inr (1, 44)), .inr (.inr (1, 46)), .inl it1, .inl lf1])) := by rw [fr33 0 (by decide)]; exact c0_1
    have c36 : h31[2]? = some (.inl (5, [.inr (.inr (1, 3)), .inr (.inr (1, 8)), .inl bg2, .inl mo2, .inl le2, .inl na2, .inl on2, .inl bi2, .inl ra2, .inl wo2, .inl he2, .inl mi2, .inl se2])) := by rw [fr33 2 (by decide)]; exact c2_2
    have c37 : h31[3]? = some (.inl (6, [.inr (.inr (1, 4)), .inr (.inr (1, 5)), .inr (.inr (1, 6)), .inr (.inr (1, 7)), .inl fu3, .inl pe3])) := by rw [fr33 3 (by decide)]; exact c3_3
    have c38 : h31[4]? = some (.inr (0, .inl f4_4)) := by rw [fr33 4 (by decide)]; exact c4_4
    obtain ⟨x39, c46_39, f46_39, rfl, l46_39⟩ := zi_g hI32 46 (by decide)
    refine zw_iret dX7_load_19 rfl rfl ?_
    exact hq _ h31 hI32 fr34
def zt_54 : zx_MT := (5, yX5_mayWalk, cX5_mayWalk, 1, (some FieldType.boolean), 0, 0)
theorem zm_54 : zx_m 54 = zt_54 := rfl
theorem dX5_mayWalk_0 : decode cX5_mayWalk 0 = .ok (.aload_n 0, 1) := by decide +kernel
theorem dX5_mayWalk_1 : decode cX5_mayWalk 1 = .ok (.invokevirtual 99, 3) := by decide +kernel
theorem dX5_mayWalk_4 : decode cX5_mayWalk 4 = .ok (.ifCond .ne 14, 3) := by decide +kernel
theorem dX5_mayWalk_7 : decode cX5_mayWalk 7 = .ok (.aload_n 0, 1) := by decide +kernel
theorem dX5_mayWalk_8 : decode cX5_mayWalk 8 = .ok (.invokevirtual 105, 3) := by decide +kernel
theorem dX5_mayWalk_11 : decode cX5_mayWalk 11 = .ok (.ifCond .ne 7, 3) := by decide +kernel
theorem dX5_mayWalk_14 : decode cX5_mayWalk 14 = .ok (.iconst 1, 1) := by decide +kernel
theorem dX5_mayWalk_15 : decode cX5_mayWalk 15 = .ok (.goto 4, 3) := by decide +kernel
theorem dX5_mayWalk_18 : decode cX5_mayWalk 18 = .ok (.iconst 0, 1) := by decide +kernel
theorem dX5_mayWalk_19 : decode cX5_mayWalk 19 = .ok (.ireturn, 1) := by decide +kernel
theorem zc_mayWalk_2 {d : Nat} {h : List zx_C}  {Q : Option zx_V → List zx_C → Prop} (hI : zx_I h)    (hq : ∀ (v : Int32) (h2 : List zx_C), zx_I h2 → (∀ i, i ∉ ([] : List Nat) → h2[i]? = h[i]?) → (v = 0 ∨ v = 1) → Q (some (.inl v)) h2) : zx_M (d + 1) 54 [.inr (.inr (1, 2))] h Q := by
  have el_0 : (0 : Int32).toInt = 0 := by decide
  have el_1 : (1 : Int32).toInt = 1 := by decide
  obtain ⟨x1, c2_1, bg1, mo1, le1, na1, on1, bi1, ra1, wo1, he1, mi1, se1, rfl, hh1, hk1⟩ := zi_g hI 2 (by decide)
  obtain ⟨x2, c3_2, fu2, pe2, rfl, hf2, hg2, hp2, hq2⟩ := zi_g hI 3 (by decide)
  have fr0 : ∀ i, i ∉ ([] : List Nat) → h[i]? = h[i]? := fun _ _ => rfl
  refine zx_M_of (Nat.le_of_ble_eq_true rfl) zm_54 (L := [some (.inr (.inr (1, 2)))]) rfl ?_
  refine zx_W_ins (pc' := 1) dX5_mayWalk_0 rfl (fun _ => rfl) rfl ?_
  refine zw_iv (k := 47) (pc' := 4) dX5_mayWalk_1 rfl rfl rfl rfl c2_1 rfl rfl (zc_47 c2_1 c3_2 (fun g3 _ => ?_) (fun g3 _ => ?_))
  · show zx_W _ _ _ _ _ _ _ [.inl 1] _ _
    refine zw_if_ne (tgt := 18) (pc' := 7) dX5_mayWalk_4 rfl rfl (fun _ => ?_) (fun g => by first | exact absurd rfl g | exact absurd g (by decide))
    refine zw_ic (v := 0) (pc' := 19) dX5_mayWalk_18 rfl rfl ?_
    refine zw_iret dX5_mayWalk_19 rfl (by decide) ?_
    exact hq _ h hI fr0 (Or.inl rfl)
  · show zx_W _ _ _ _ _ _ _ [.inl 0] _ _
    refine zw_if_ne (tgt := 18) (pc' := 7) dX5_mayWalk_4 rfl rfl (fun g => by first | exact absurd rfl g | exact absurd g (by decide)) (fun _ => ?_)
    refine zx_W_ins (pc' := 8) dX5_mayWalk_7 rfl (fun _ => rfl) rfl ?_
    refine zw_iv (k := 48) (pc' := 11) dX5_mayWalk_8 rfl rfl rfl rfl c2_1 rfl rfl (zc_48 c2_1 (fun g6 _ => ?_) (fun g6 _ => ?_))
    · show zx_W _ _ _ _ _ _ _ [.inl 1] _ _
      refine zw_if_ne (tgt := 18) (pc' := 14) dX5_mayWalk_11 rfl rfl (fun _ => ?_) (fun g => by first | exact absurd rfl g | exact absurd g (by decide))
      refine zw_ic (v := 0) (pc' := 19) dX5_mayWalk_18 rfl rfl ?_
      refine zw_iret dX5_mayWalk_19 rfl (by decide) ?_
      exact hq _ h hI fr0 (Or.inl rfl)
    · show zx_W _ _ _ _ _ _ _ [.inl 0] _ _
      refine zw_if_ne (tgt := 18) (pc' := 14) dX5_mayWalk_11 rfl rfl (fun g => by first | exact absurd rfl g | exact absurd g (by decide)) (fun _ => ?_)
      refine zw_ic (v := 1) (pc' := 15) dX5_mayWalk_14 rfl rfl ?_
      refine zw_goto (tgt := 19) dX5_mayWalk_15 rfl ?_
      refine zw_iret dX5_mayWalk_19 rfl (by decide) ?_
      exact hq _ h hI fr0 (Or.inr rfl)
def zt_55 : zx_MT := (5, yX5_mayRest, cX5_mayRest, 1, (some FieldType.boolean), 0, 0)
theorem zm_55 : zx_m 55 = zt_55 := rfl
theorem dX5_mayRest_0 : decode cX5_mayRest 0 = .ok (.aload_n 0, 1) := by decide +kernel
theorem dX5_mayRest_1 : decode cX5_mayRest 1 = .ok (.getfield 43, 3) := by decide +kernel
theorem dX5_mayRest_4 : decode cX5_mayRest 4 = .ok (.sipush 900, 3) := by decide +kernel
theorem dX5_mayRest_7 : decode cX5_mayRest 7 = .ok (.if_icmp .gt 32, 3) := by decide +kernel
theorem dX5_mayRest_10 : decode cX5_mayRest 10 = .ok (.aload_n 0, 1) := by decide +kernel
theorem dX5_mayRest_11 : decode cX5_mayRest 11 = .ok (.getfield 40, 3) := by decide +kernel
theorem dX5_mayRest_14 : decode cX5_mayRest 14 = .ok (.ifCond .eq 21, 3) := by decide +kernel
theorem dX5_mayRest_17 : decode cX5_mayRest 17 = .ok (.aload_n 0, 1) := by decide +kernel
theorem dX5_mayRest_18 : decode cX5_mayRest 18 = .ok (.getfield 49, 3) := by decide +kernel
theorem dX5_mayRest_21 : decode cX5_mayRest 21 = .ok (.getfield 111, 3) := by decide +kernel
theorem dX5_mayRest_24 : decode cX5_mayRest 24 = .ok (.aload_n 0, 1) := by decide +kernel
theorem dX5_mayRest_25 : decode cX5_mayRest 25 = .ok (.getfield 40, 3) := by decide +kernel
theorem dX5_mayRest_28 : decode cX5_mayRest 28 = .ok (.iconst 1, 1) := by decide +kernel
theorem dX5_mayRest_29 : decode cX5_mayRest 29 = .ok (.isub, 1) := by decide +kernel
theorem dX5_mayRest_30 : decode cX5_mayRest 30 = .ok (.iaload, 1) := by decide +kernel
theorem dX5_mayRest_31 : decode cX5_mayRest 31 = .ok (.iconst 1, 1) := by decide +kernel
theorem dX5_mayRest_32 : decode cX5_mayRest 32 = .ok (.if_icmp .ne 7, 3) := by decide +kernel
theorem dX5_mayRest_35 : decode cX5_mayRest 35 = .ok (.iconst 1, 1) := by decide +kernel
theorem dX5_mayRest_36 : decode cX5_mayRest 36 = .ok (.goto 4, 3) := by decide +kernel
theorem dX5_mayRest_39 : decode cX5_mayRest 39 = .ok (.iconst 0, 1) := by decide +kernel
theorem dX5_mayRest_40 : decode cX5_mayRest 40 = .ok (.ireturn, 1) := by decide +kernel
theorem zc_mayRest_2 {d : Nat} {h : List zx_C}  {Q : Option zx_V → List zx_C → Prop} (hI : zx_I h)    (hq : ∀ (v : Int32) (h2 : List zx_C), zx_I h2 → (∀ i, i ∉ ([] : List Nat) → h2[i]? = h[i]?) → (v = 0 ∨ v = 1) → Q (some (.inl v)) h2) : zx_M (d) 55 [.inr (.inr (1, 2))] h Q := by
  have el_0 : (0 : Int32).toInt = 0 := by decide
  have el_1 : (1 : Int32).toInt = 1 := by decide
  have el_900 : (900 : Int32).toInt = 900 := by decide
  obtain ⟨x1, c2_1, bg1, mo1, le1, na1, on1, bi1, ra1, wo1, he1, mi1, se1, rfl, hh1, hk1⟩ := zi_g hI 2 (by decide)
  obtain ⟨x2, c3_2, fu2, pe2, rfl, hf2, hg2, hp2, hq2⟩ := zi_g hI 3 (by decide)
  obtain ⟨x3, c5_3, f5_3, rfl, l5_3⟩ := zi_g hI 5 (by decide)
  have fr0 : ∀ i, i ∉ ([] : List Nat) → h[i]? = h[i]? := fun _ _ => rfl
  have e1 : (1 : Int32).toInt = 1 := rfl
  have es := fb_subI (x := he1) (y := 1) (by omega) (by omega)
  refine zx_M_of (Nat.le_of_ble_eq_true rfl) zm_55 (L := [some (.inr (.inr (1, 2)))]) rfl ?_
  refine zx_W_ins (pc' := 1) dX5_mayRest_0 rfl (fun _ => rfl) rfl ?_
  refine zw_gf (pc' := 4) dX5_mayRest_1 rfl rfl c2_1 rfl ?_
  refine zw_si (v := 900) (pc' := 7) dX5_mayRest_4 rfl rfl ?_
  refine zw_icmp_gt (tgt := 39) (pc' := 10) dX5_mayRest_7 rfl rfl (fun g4 => ?_) (fun g4 => ?_)
  · refine zw_ic (v := 0) (pc' := 40) dX5_mayRest_39 rfl rfl ?_
    refine zw_iret dX5_mayRest_40 rfl (by decide) ?_
    exact hq _ h hI fr0 (Or.inl rfl)
  · refine zx_W_ins (pc' := 11) dX5_mayRest_10 rfl (fun _ => rfl) rfl ?_
    refine zw_gf (pc' := 14) dX5_mayRest_11 rfl rfl c2_1 rfl ?_
    refine zw_if_eq (tgt := 35) (pc' := 17) dX5_mayRest_14 rfl rfl (fun g5 => ?_) (fun g5 => ?_)
    · have g5t : (he1).toInt = (0 : Int32).toInt := congrArg Int32.toInt g5
      refine zw_ic (v := 1) (pc' := 36) dX5_mayRest_35 rfl rfl ?_
      refine zw_goto (tgt := 40) dX5_mayRest_36 rfl ?_
      refine zw_iret dX5_mayRest_40 rfl (by decide) ?_
      exact hq _ h hI fr0 (Or.inr rfl)
    · have g5t : ¬ (he1).toInt = (0 : Int32).toInt := fun z => g5 (Int32.toInt_inj.mp z)
      refine zx_W_ins (pc' := 18) dX5_mayRest_17 rfl (fun _ => rfl) rfl ?_
      refine zw_gf (pc' := 21) dX5_mayRest_18 rfl rfl c2_1 rfl ?_
      refine zw_gf (pc' := 24) dX5_mayRest_21 rfl rfl c3_2 rfl ?_
      refine zx_W_ins (pc' := 25) dX5_mayRest_24 rfl (fun _ => rfl) rfl ?_
      refine zw_gf (pc' := 28) dX5_mayRest_25 rfl rfl c2_1 rfl ?_
      refine zw_ic (v := 1) (pc' := 29) dX5_mayRest_28 rfl rfl ?_
      refine zx_W_ins (pc' := 30) dX5_mayRest_29 rfl (fun _ => rfl) rfl ?_
      refine zw_ial (pc' := 31) dX5_mayRest_30 rfl c5_3 (zi_in (by have := l5_3; omega)) ?_
      refine zw_ic (v := 1) (pc' := 32) dX5_mayRest_31 rfl rfl ?_
      refine zw_icmp_ne (tgt := 39) (pc' := 35) dX5_mayRest_32 rfl rfl (fun g6 => ?_) (fun g6 => ?_)
      · have g6t : ¬ ((f5_3.getD (he1 - 1).toNatClampNeg 0)).toInt = (1 : Int32).toInt := fun z => g6 (Int32.toInt_inj.mp z)
        refine zw_ic (v := 0) (pc' := 40) dX5_mayRest_39 rfl rfl ?_
        refine zw_iret dX5_mayRest_40 rfl (by decide) ?_
        exact hq _ h hI fr0 (Or.inl rfl)
      · have g6t : ((f5_3.getD (he1 - 1).toNatClampNeg 0)).toInt = (1 : Int32).toInt := congrArg Int32.toInt g6
        refine zw_ic (v := 1) (pc' := 36) dX5_mayRest_35 rfl rfl ?_
        refine zw_goto (tgt := 40) dX5_mayRest_36 rfl ?_
        refine zw_iret dX5_mayRest_40 rfl (by decide) ?_
        exact hq _ h hI fr0 (Or.inr rfl)
def zt_53 : zx_MT := (5, yX5_mayCarry, cX5_mayCarry, 4, (some FieldType.boolean), 1, 0)
theorem zm_53 : zx_m 53 = zt_53 := rfl
theorem dX5_mayCarry_0 : decode cX5_mayCarry 0 = .ok (.aload_n 0, 1) := by decide +kernel
theorem dX5_mayCarry_1 : decode cX5_mayCarry 1 = .ok (.getfield 49, 3) := by decide +kernel
theorem dX5_mayCarry_4 : decode cX5_mayCarry 4 = .ok (.iload_n 1, 1) := by decide +kernel
theorem dX5_mayCarry_5 : decode cX5_mayCarry 5 = .ok (.invokevirtual 96, 3) := by decide +kernel
theorem dX5_mayCarry_8 : decode cX5_mayCarry 8 = .ok (.ifCond .eq 10, 3) := by decide +kernel
theorem dX5_mayCarry_11 : decode cX5_mayCarry 11 = .ok (.aload_n 0, 1) := by decide +kernel
theorem dX5_mayCarry_12 : decode cX5_mayCarry 12 = .ok (.invokevirtual 99, 3) := by decide +kernel
theorem dX5_mayCarry_15 : decode cX5_mayCarry 15 = .ok (.ifCond .eq 5, 3) := by decide +kernel
theorem dX5_mayCarry_18 : decode cX5_mayCarry 18 = .ok (.iconst 0, 1) := by decide +kernel
theorem dX5_mayCarry_19 : decode cX5_mayCarry 19 = .ok (.ireturn, 1) := by decide +kernel
theorem dX5_mayCarry_20 : decode cX5_mayCarry 20 = .ok (.aload_n 0, 1) := by decide +kernel
theorem dX5_mayCarry_21 : decode cX5_mayCarry 21 = .ok (.getfield 49, 3) := by decide +kernel
theorem dX5_mayCarry_24 : decode cX5_mayCarry 24 = .ok (.getfield 59, 3) := by decide +kernel
theorem dX5_mayCarry_27 : decode cX5_mayCarry 27 = .ok (.iload_n 1, 1) := by decide +kernel
theorem dX5_mayCarry_28 : decode cX5_mayCarry 28 = .ok (.iaload, 1) := by decide +kernel
theorem dX5_mayCarry_29 : decode cX5_mayCarry 29 = .ok (.istore_n 2, 1) := by decide +kernel
theorem dX5_mayCarry_30 : decode cX5_mayCarry 30 = .ok (.aload_n 0, 1) := by decide +kernel
theorem dX5_mayCarry_31 : decode cX5_mayCarry 31 = .ok (.getfield 49, 3) := by decide +kernel
theorem dX5_mayCarry_34 : decode cX5_mayCarry 34 = .ok (.getfield 102, 3) := by decide +kernel
theorem dX5_mayCarry_37 : decode cX5_mayCarry 37 = .ok (.aload_n 0, 1) := by decide +kernel
theorem dX5_mayCarry_38 : decode cX5_mayCarry 38 = .ok (.getfield 40, 3) := by decide +kernel
theorem dX5_mayCarry_41 : decode cX5_mayCarry 41 = .ok (.iaload, 1) := by decide +kernel
theorem dX5_mayCarry_42 : decode cX5_mayCarry 42 = .ok (.istore_n 3, 1) := by decide +kernel
theorem dX5_mayCarry_43 : decode cX5_mayCarry 43 = .ok (.iload_n 2, 1) := by decide +kernel
theorem dX5_mayCarry_44 : decode cX5_mayCarry 44 = .ok (.iconst 2, 1) := by decide +kernel
theorem dX5_mayCarry_45 : decode cX5_mayCarry 45 = .ok (.if_icmp .eq 8, 3) := by decide +kernel
theorem dX5_mayCarry_48 : decode cX5_mayCarry 48 = .ok (.iload_n 2, 1) := by decide +kernel
theorem dX5_mayCarry_49 : decode cX5_mayCarry 49 = .ok (.iconst 5, 1) := by decide +kernel
theorem dX5_mayCarry_50 : decode cX5_mayCarry 50 = .ok (.if_icmp .ne 12, 3) := by decide +kernel
theorem dX5_mayCarry_53 : decode cX5_mayCarry 53 = .ok (.aload_n 0, 1) := by decide +kernel
theorem dX5_mayCarry_54 : decode cX5_mayCarry 54 = .ok (.invokevirtual 105, 3) := by decide +kernel
theorem dX5_mayCarry_57 : decode cX5_mayCarry 57 = .ok (.ifCond .ne 5, 3) := by decide +kernel
theorem dX5_mayCarry_60 : decode cX5_mayCarry 60 = .ok (.iconst 0, 1) := by decide +kernel
theorem dX5_mayCarry_61 : decode cX5_mayCarry 61 = .ok (.ireturn, 1) := by decide +kernel
theorem dX5_mayCarry_62 : decode cX5_mayCarry 62 = .ok (.iload_n 2, 1) := by decide +kernel
theorem dX5_mayCarry_63 : decode cX5_mayCarry 63 = .ok (.bipush 6, 2) := by decide +kernel
theorem dX5_mayCarry_65 : decode cX5_mayCarry 65 = .ok (.if_icmp .ne 10, 3) := by decide +kernel
theorem dX5_mayCarry_68 : decode cX5_mayCarry 68 = .ok (.iload_n 3, 1) := by decide +kernel
theorem dX5_mayCarry_69 : decode cX5_mayCarry 69 = .ok (.iconst 1, 1) := by decide +kernel
theorem dX5_mayCarry_70 : decode cX5_mayCarry 70 = .ok (.if_icmp .le 5, 3) := by decide +kernel
theorem dX5_mayCarry_73 : decode cX5_mayCarry 73 = .ok (.iconst 0, 1) := by decide +kernel
theorem dX5_mayCarry_74 : decode cX5_mayCarry 74 = .ok (.ireturn, 1) := by decide +kernel
theorem dX5_mayCarry_75 : decode cX5_mayCarry 75 = .ok (.aload_n 0, 1) := by decide +kernel
theorem dX5_mayCarry_76 : decode cX5_mayCarry 76 = .ok (.getfield 9, 3) := by decide +kernel
theorem dX5_mayCarry_79 : decode cX5_mayCarry 79 = .ok (.iload_n 1, 1) := by decide +kernel
theorem dX5_mayCarry_80 : decode cX5_mayCarry 80 = .ok (.iaload, 1) := by decide +kernel
theorem dX5_mayCarry_81 : decode cX5_mayCarry 81 = .ok (.aload_n 0, 1) := by decide +kernel
theorem dX5_mayCarry_82 : decode cX5_mayCarry 82 = .ok (.iload_n 1, 1) := by decide +kernel
theorem dX5_mayCarry_83 : decode cX5_mayCarry 83 = .ok (.iload_n 3, 1) := by decide +kernel
theorem dX5_mayCarry_84 : decode cX5_mayCarry 84 = .ok (.invokevirtual 108, 3) := by decide +kernel
theorem dX5_mayCarry_87 : decode cX5_mayCarry 87 = .ok (.iadd, 1) := by decide +kernel
theorem dX5_mayCarry_88 : decode cX5_mayCarry 88 = .ok (.aload_n 0, 1) := by decide +kernel
theorem dX5_mayCarry_89 : decode cX5_mayCarry 89 = .ok (.getfield 37, 3) := by decide +kernel
theorem dX5_mayCarry_92 : decode cX5_mayCarry 92 = .ok (.if_icmp .gt 7, 3) := by decide +kernel
theorem dX5_mayCarry_95 : decode cX5_mayCarry 95 = .ok (.iconst 1, 1) := by decide +kernel
theorem dX5_mayCarry_96 : decode cX5_mayCarry 96 = .ok (.goto 4, 3) := by decide +kernel
theorem dX5_mayCarry_99 : decode cX5_mayCarry 99 = .ok (.iconst 0, 1) := by decide +kernel
theorem dX5_mayCarry_100 : decode cX5_mayCarry 100 = .ok (.ireturn, 1) := by decide +kernel
theorem zc_mayCarry_2 {d : Nat} {h : List zx_C} {q : Int32} {Q : Option zx_V → List zx_C → Prop} (hI : zx_I h)    (hq : ∀ (v : Int32) (h2 : List zx_C), zx_I h2 → (∀ i, i ∉ ([] : List Nat) → h2[i]? = h[i]?) → (v = 0 ∨ v = 1) → Q (some (.inl v)) h2) : zx_M (d + 1) 53 [.inr (.inr (1, 2)), .inl q] h Q := by
  have el_0 : (0 : Int32).toInt = 0 := by decide
  have el_1 : (1 : Int32).toInt = 1 := by decide
  have el_2 : (2 : Int32).toInt = 2 := by decide
  have el_5 : (5 : Int32).toInt = 5 := by decide
  have el_6 : (6 : Int32).toInt = 6 := by decide
  obtain ⟨x1, c2_1, bg1, mo1, le1, na1, on1, bi1, ra1, wo1, he1, mi1, se1, rfl, hh1, hk1⟩ := zi_g hI 2 (by decide)
  obtain ⟨x2, c3_2, fu2, pe2, rfl, hf2, hg2, hp2, hq2⟩ := zi_g hI 3 (by decide)
  obtain ⟨x3, c4_3, f4_3, rfl, l4_3⟩ := zi_g hI 4 (by decide)
  obtain ⟨x4, c6_4, f6_4, rfl, l6_4, b6_4⟩ := zi_g hI 6 (by decide)
  obtain ⟨x5, c8_5, f8_5, rfl, l8_5⟩ := zi_g hI 8 (by decide)
  have fr0 : ∀ i, i ∉ ([] : List Nat) → h[i]? = h[i]? := fun _ _ => rfl
  refine zx_M_of (Nat.le_of_ble_eq_true rfl) zm_53 (L := [some (.inr (.inr (1, 2))), some (.inl q), none, none]) rfl ?_
  refine zx_W_ins (pc' := 1) dX5_mayCarry_0 rfl (fun _ => rfl) rfl ?_
  refine zw_gf (pc' := 4) dX5_mayCarry_1 rfl rfl c2_1 rfl ?_
  refine zx_W_ins (pc' := 5) dX5_mayCarry_4 rfl (fun _ => rfl) rfl ?_
  refine zw_iv (k := 65) (pc' := 8) dX5_mayCarry_5 rfl rfl rfl rfl c3_2 rfl rfl (zc_65 c3_2 (fun g6 _ => ?_) (fun g6 _ => ?_))
  · show zx_W _ _ _ _ _ _ _ [.inl 1] _ _
    refine zw_if_eq (tgt := 18) (pc' := 11) dX5_mayCarry_8 rfl rfl (fun g => by first | exact absurd rfl g | exact absurd g (by decide)) (fun _ => ?_)
    refine zx_W_ins (pc' := 12) dX5_mayCarry_11 rfl (fun _ => rfl) rfl ?_
    refine zw_iv (k := 47) (pc' := 15) dX5_mayCarry_12 rfl rfl rfl rfl c2_1 rfl rfl (zc_47 c2_1 c3_2 (fun g8 _ => ?_) (fun g8 _ => ?_))
    · show zx_W _ _ _ _ _ _ _ [.inl 1] _ _
      refine zw_if_eq (tgt := 20) (pc' := 18) dX5_mayCarry_15 rfl rfl (fun g => by first | exact absurd rfl g | exact absurd g (by decide)) (fun _ => ?_)
      refine zw_ic (v := 0) (pc' := 19) dX5_mayCarry_18 rfl rfl ?_
      refine zw_iret dX5_mayCarry_19 rfl (by decide) ?_
      exact hq _ h hI fr0 (Or.inl rfl)
    · show zx_W _ _ _ _ _ _ _ [.inl 0] _ _
      refine zw_if_eq (tgt := 20) (pc' := 18) dX5_mayCarry_15 rfl rfl (fun _ => ?_) (fun g => by first | exact absurd rfl g | exact absurd g (by decide))
      refine zx_W_ins (pc' := 21) dX5_mayCarry_20 rfl (fun _ => rfl) rfl ?_
      refine zw_gf (pc' := 24) dX5_mayCarry_21 rfl rfl c2_1 rfl ?_
      refine zw_gf (pc' := 27) dX5_mayCarry_24 rfl rfl c3_2 rfl ?_
      refine zx_W_ins (pc' := 28) dX5_mayCarry_27 rfl (fun _ => rfl) rfl ?_
      refine zw_ial (pc' := 29) dX5_mayCarry_28 rfl c6_4 (zi_in (by have := l6_4; omega)) ?_
      have bb11 := b6_4 q.toNatClampNeg (by have := (zi_in (x := q) (n := 6) (by omega)).2; omega)
      refine zx_W_ins (pc' := 30) (L' := [some (.inr (.inr (1, 2))), some (.inl q), some (.inl (f6_4.getD q.toNatClampNeg 0)), none]) dX5_mayCarry_29 rfl (fun _ => rfl) rfl ?_
      refine zx_W_ins (pc' := 31) dX5_mayCarry_30 rfl (fun _ => rfl) rfl ?_
      refine zw_gf (pc' := 34) dX5_mayCarry_31 rfl rfl c2_1 rfl ?_
      refine zw_gf (pc' := 37) dX5_mayCarry_34 rfl rfl c3_2 rfl ?_
      refine zx_W_ins (pc' := 38) dX5_mayCarry_37 rfl (fun _ => rfl) rfl ?_
      refine zw_gf (pc' := 41) dX5_mayCarry_38 rfl rfl c2_1 rfl ?_
      refine zw_ial (pc' := 42) dX5_mayCarry_41 rfl c4_3 (zi_in (by have := l4_3; omega)) ?_
      refine zx_W_ins (pc' := 43) (L' := [some (.inr (.inr (1, 2))), some (.inl q), some (.inl (f6_4.getD q.toNatClampNeg 0)), some (.inl (f4_3.getD he1.toNatClampNeg 0))]) dX5_mayCarry_42 rfl (fun _ => rfl) rfl ?_
      refine zx_W_ins (pc' := 44) dX5_mayCarry_43 rfl (fun _ => rfl) rfl ?_
      refine zw_ic (v := 2) (pc' := 45) dX5_mayCarry_44 rfl rfl ?_
      refine zw_icmp_eq (tgt := 53) (pc' := 48) dX5_mayCarry_45 rfl rfl (fun g12 => ?_) (fun g12 => ?_)
      · have g12t : ((f6_4.getD q.toNatClampNeg 0)).toInt = (2 : Int32).toInt := congrArg Int32.toInt g12
        refine zx_W_ins (pc' := 54) dX5_mayCarry_53 rfl (fun _ => rfl) rfl ?_
        refine zw_iv (k := 48) (pc' := 57) dX5_mayCarry_54 rfl rfl rfl rfl c2_1 rfl rfl (zc_48 c2_1 (fun g13 _ => ?_) (fun g13 _ => ?_))
        · show zx_W _ _ _ _ _ _ _ [.inl 1] _ _
          refine zw_if_ne (tgt := 62) (pc' := 60) dX5_mayCarry_57 rfl rfl (fun _ => ?_) (fun g => by first | exact absurd rfl g | exact absurd g (by decide))
          refine zx_W_ins (pc' := 63) dX5_mayCarry_62 rfl (fun _ => rfl) rfl ?_
          refine zw_bi (v := 6) (pc' := 65) dX5_mayCarry_63 rfl rfl ?_
          refine zw_icmp_ne (tgt := 75) (pc' := 68) dX5_mayCarry_65 rfl rfl (fun g15 => ?_) (fun g15 => ?_)
          · have g15t : ¬ ((f6_4.getD q.toNatClampNeg 0)).toInt = (6 : Int32).toInt := fun z => g15 (Int32.toInt_inj.mp z)
            refine zx_W_ins (pc' := 76) dX5_mayCarry_75 rfl (fun _ => rfl) rfl ?_
            refine zw_gf (pc' := 79) dX5_mayCarry_76 rfl rfl c2_1 rfl ?_
            refine zx_W_ins (pc' := 80) dX5_mayCarry_79 rfl (fun _ => rfl) rfl ?_
            refine zw_ial (pc' := 81) dX5_mayCarry_80 rfl c8_5 (zi_in (by have := l8_5; omega)) ?_
            refine zx_W_ins (pc' := 82) dX5_mayCarry_81 rfl (fun _ => rfl) rfl ?_
            refine zx_W_ins (pc' := 83) dX5_mayCarry_82 rfl (fun _ => rfl) rfl ?_
            refine zx_W_ins (pc' := 84) dX5_mayCarry_83 rfl (fun _ => rfl) rfl ?_
            refine zw_iv (k := 51) (pc' := 87) dX5_mayCarry_84 rfl rfl rfl rfl c2_1 rfl rfl (zc_load_2 hI (by omega) (fun v16 h17 hI18 fr19 _ => ?_))
            show zx_W _ _ _ _ _ _ _ [.inl v16, .inl (f8_5.getD q.toNatClampNeg 0)] _ _
            have fr20 : ∀ i, i ∉ ([] : List Nat) → h17[i]? = h[i]? := fun i hi => Eq.trans (fr19 i (fun z => hi (by first | exact absurd z List.not_mem_nil | (simp only [List.mem_cons, List.not_mem_nil, or_false] at z ⊢; omega)))) (fr0 i hi)
            have c21 : h17[2]? = some (.inl (5, [.inr (.inr (1, 3)), .inr (.inr (1, 8)), .inl bg1, .inl mo1, .inl le1, .inl na1, .inl on1, .inl bi1, .inl ra1, .inl wo1, .inl he1, .inl mi1, .inl se1])) := by rw [fr19 2 (by decide)]; exact c2_1
            have c22 : h17[3]? = some (.inl (6, [.inr (.inr (1, 4)), .inr (.inr (1, 5)), .inr (.inr (1, 6)), .inr (.inr (1, 7)), .inl fu2, .inl pe2])) := by rw [fr19 3 (by decide)]; exact c3_2
            have c23 : h17[4]? = some (.inr (0, .inl f4_3)) := by rw [fr19 4 (by decide)]; exact c4_3
            have c24 : h17[6]? = some (.inr (0, .inl f6_4)) := by rw [fr19 6 (by decide)]; exact c6_4
            have c25 : h17[8]? = some (.inr (0, .inl f8_5)) := by rw [fr19 8 (by decide)]; exact c8_5
            refine zx_W_ins (pc' := 88) dX5_mayCarry_87 rfl (fun _ => rfl) rfl ?_
            refine zx_W_ins (pc' := 89) dX5_mayCarry_88 rfl (fun _ => rfl) rfl ?_
            refine zw_gf (pc' := 92) dX5_mayCarry_89 rfl rfl c21 rfl ?_
            refine zw_icmp_gt (tgt := 99) (pc' := 95) dX5_mayCarry_92 rfl rfl (fun g26 => ?_) (fun g26 => ?_)
            · refine zw_ic (v := 0) (pc' := 100) dX5_mayCarry_99 rfl rfl ?_
              refine zw_iret dX5_mayCarry_100 rfl (by decide) ?_
              exact hq _ h17 hI18 fr20 (Or.inl rfl)
            · refine zw_ic (v := 1) (pc' := 96) dX5_mayCarry_95 rfl rfl ?_
              refine zw_goto (tgt := 100) dX5_mayCarry_96 rfl ?_
              refine zw_iret dX5_mayCarry_100 rfl (by decide) ?_
              exact hq _ h17 hI18 fr20 (Or.inr rfl)
          · have g15t : ((f6_4.getD q.toNatClampNeg 0)).toInt = (6 : Int32).toInt := congrArg Int32.toInt g15
            refine zx_W_ins (pc' := 69) dX5_mayCarry_68 rfl (fun _ => rfl) rfl ?_
            refine zw_ic (v := 1) (pc' := 70) dX5_mayCarry_69 rfl rfl ?_
            refine zw_icmp_le (tgt := 75) (pc' := 73) dX5_mayCarry_70 rfl rfl (fun g27 => ?_) (fun g27 => ?_)
            · refine zx_W_ins (pc' := 76) dX5_mayCarry_75 rfl (fun _ => rfl) rfl ?_
              refine zw_gf (pc' := 79) dX5_mayCarry_76 rfl rfl c2_1 rfl ?_
              refine zx_W_ins (pc' := 80) dX5_mayCarry_79 rfl (fun _ => rfl) rfl ?_
              refine zw_ial (pc' := 81) dX5_mayCarry_80 rfl c8_5 (zi_in (by have := l8_5; omega)) ?_
              refine zx_W_ins (pc' := 82) dX5_mayCarry_81 rfl (fun _ => rfl) rfl ?_
              refine zx_W_ins (pc' := 83) dX5_mayCarry_82 rfl (fun _ => rfl) rfl ?_
              refine zx_W_ins (pc' := 84) dX5_mayCarry_83 rfl (fun _ => rfl) rfl ?_
              refine zw_iv (k := 51) (pc' := 87) dX5_mayCarry_84 rfl rfl rfl rfl c2_1 rfl rfl (zc_load_2 hI (by omega) (fun v28 h29 hI30 fr31 _ => ?_))
              show zx_W _ _ _ _ _ _ _ [.inl v28, .inl (f8_5.getD q.toNatClampNeg 0)] _ _
              have fr32 : ∀ i, i ∉ ([] : List Nat) → h29[i]? = h[i]? := fun i hi => Eq.trans (fr31 i (fun z => hi (by first | exact absurd z List.not_mem_nil | (simp only [List.mem_cons, List.not_mem_nil, or_false] at z ⊢; omega)))) (fr0 i hi)
              have c33 : h29[2]? = some (.inl (5, [.inr (.inr (1, 3)), .inr (.inr (1, 8)), .inl bg1, .inl mo1, .inl le1, .inl na1, .inl on1, .inl bi1, .inl ra1, .inl wo1, .inl he1, .inl mi1, .inl se1])) := by rw [fr31 2 (by decide)]; exact c2_1
              have c34 : h29[3]? = some (.inl (6, [.inr (.inr (1, 4)), .inr (.inr (1, 5)), .inr (.inr (1, 6)), .inr (.inr (1, 7)), .inl fu2, .inl pe2])) := by rw [fr31 3 (by decide)]; exact c3_2
              have c35 : h29[4]? = some (.inr (0, .inl f4_3)) := by rw [fr31 4 (by decide)]; exact c4_3
              have c36 : h29[6]? = some (.inr (0, .inl f6_4)) := by rw [fr31 6 (by decide)]; exact c6_4
              have c37 : h29[8]? = some (.inr (0, .inl f8_5)) := by rw [fr31 8 (by decide)]; exact c8_5
              refine zx_W_ins (pc' := 88) dX5_mayCarry_87 rfl (fun _ => rfl) rfl ?_
              refine zx_W_ins (pc' := 89) dX5_mayCarry_88 rfl (fun _ => rfl) rfl ?_
              refine zw_gf (pc' := 92) dX5_mayCarry_89 rfl rfl c33 rfl ?_
              refine zw_icmp_gt (tgt := 99) (pc' := 95) dX5_mayCarry_92 rfl rfl (fun g38 => ?_) (fun g38 => ?_)
              · refine zw_ic (v := 0) (pc' := 100) dX5_mayCarry_99 rfl rfl ?_
                refine zw_iret dX5_mayCarry_100 rfl (by decide) ?_
                exact hq _ h29 hI30 fr32 (Or.inl rfl)
              · refine zw_ic (v := 1) (pc' := 96) dX5_mayCarry_95 rfl rfl ?_
                refine zw_goto (tgt := 100) dX5_mayCarry_96 rfl ?_
                refine zw_iret dX5_mayCarry_100 rfl (by decide) ?_
                exact hq _ h29 hI30 fr32 (Or.inr rfl)
            · refine zw_ic (v := 0) (pc' := 74) dX5_mayCarry_73 rfl rfl ?_
              refine zw_iret dX5_mayCarry_74 rfl (by decide) ?_
              exact hq _ h hI fr0 (Or.inl rfl)
        · show zx_W _ _ _ _ _ _ _ [.inl 0] _ _
          refine zw_if_ne (tgt := 62) (pc' := 60) dX5_mayCarry_57 rfl rfl (fun g => by first | exact absurd rfl g | exact absurd g (by decide)) (fun _ => ?_)
          refine zw_ic (v := 0) (pc' := 61) dX5_mayCarry_60 rfl rfl ?_
          refine zw_iret dX5_mayCarry_61 rfl (by decide) ?_
          exact hq _ h hI fr0 (Or.inl rfl)
      · have g12t : ¬ ((f6_4.getD q.toNatClampNeg 0)).toInt = (2 : Int32).toInt := fun z => g12 (Int32.toInt_inj.mp z)
        refine zx_W_ins (pc' := 49) dX5_mayCarry_48 rfl (fun _ => rfl) rfl ?_
        refine zw_ic (v := 5) (pc' := 50) dX5_mayCarry_49 rfl rfl ?_
        refine zw_icmp_ne (tgt := 62) (pc' := 53) dX5_mayCarry_50 rfl rfl (fun g40 => ?_) (fun g40 => ?_)
        · have g40t : ¬ ((f6_4.getD q.toNatClampNeg 0)).toInt = (5 : Int32).toInt := fun z => g40 (Int32.toInt_inj.mp z)
          refine zx_W_ins (pc' := 63) dX5_mayCarry_62 rfl (fun _ => rfl) rfl ?_
          refine zw_bi (v := 6) (pc' := 65) dX5_mayCarry_63 rfl rfl ?_
          refine zw_icmp_ne (tgt := 75) (pc' := 68) dX5_mayCarry_65 rfl rfl (fun g41 => ?_) (fun g41 => ?_)
          · have g41t : ¬ ((f6_4.getD q.toNatClampNeg 0)).toInt = (6 : Int32).toInt := fun z => g41 (Int32.toInt_inj.mp z)
            refine zx_W_ins (pc' := 76) dX5_mayCarry_75 rfl (fun _ => rfl) rfl ?_
            refine zw_gf (pc' := 79) dX5_mayCarry_76 rfl rfl c2_1 rfl ?_
            refine zx_W_ins (pc' := 80) dX5_mayCarry_79 rfl (fun _ => rfl) rfl ?_
            refine zw_ial (pc' := 81) dX5_mayCarry_80 rfl c8_5 (zi_in (by have := l8_5; omega)) ?_
            refine zx_W_ins (pc' := 82) dX5_mayCarry_81 rfl (fun _ => rfl) rfl ?_
            refine zx_W_ins (pc' := 83) dX5_mayCarry_82 rfl (fun _ => rfl) rfl ?_
            refine zx_W_ins (pc' := 84) dX5_mayCarry_83 rfl (fun _ => rfl) rfl ?_
            refine zw_iv (k := 51) (pc' := 87) dX5_mayCarry_84 rfl rfl rfl rfl c2_1 rfl rfl (zc_load_2 hI (by omega) (fun v42 h43 hI44 fr45 _ => ?_))
            show zx_W _ _ _ _ _ _ _ [.inl v42, .inl (f8_5.getD q.toNatClampNeg 0)] _ _
            have fr46 : ∀ i, i ∉ ([] : List Nat) → h43[i]? = h[i]? := fun i hi => Eq.trans (fr45 i (fun z => hi (by first | exact absurd z List.not_mem_nil | (simp only [List.mem_cons, List.not_mem_nil, or_false] at z ⊢; omega)))) (fr0 i hi)
            have c47 : h43[2]? = some (.inl (5, [.inr (.inr (1, 3)), .inr (.inr (1, 8)), .inl bg1, .inl mo1, .inl le1, .inl na1, .inl on1, .inl bi1, .inl ra1, .inl wo1, .inl he1, .inl mi1, .inl se1])) := by rw [fr45 2 (by decide)]; exact c2_1
            have c48 : h43[3]? = some (.inl (6, [.inr (.inr (1, 4)), .inr (.inr (1, 5)), .inr (.inr (1, 6)), .inr (.inr (1, 7)), .inl fu2, .inl pe2])) := by rw [fr45 3 (by decide)]; exact c3_2
            have c49 : h43[4]? = some (.inr (0, .inl f4_3)) := by rw [fr45 4 (by decide)]; exact c4_3
            have c50 : h43[6]? = some (.inr (0, .inl f6_4)) := by rw [fr45 6 (by decide)]; exact c6_4
            have c51 : h43[8]? = some (.inr (0, .inl f8_5)) := by rw [fr45 8 (by decide)]; exact c8_5
            refine zx_W_ins (pc' := 88) dX5_mayCarry_87 rfl (fun _ => rfl) rfl ?_
            refine zx_W_ins (pc' := 89) dX5_mayCarry_88 rfl (fun _ => rfl) rfl ?_
            refine zw_gf (pc' := 92) dX5_mayCarry_89 rfl rfl c47 rfl ?_
            refine zw_icmp_gt (tgt := 99) (pc' := 95) dX5_mayCarry_92 rfl rfl (fun g52 => ?_) (fun g52 => ?_)
            · refine zw_ic (v := 0) (pc' := 100) dX5_mayCarry_99 rfl rfl ?_
              refine zw_iret dX5_mayCarry_100 rfl (by decide) ?_
              exact hq _ h43 hI44 fr46 (Or.inl rfl)
            · refine zw_ic (v := 1) (pc' := 96) dX5_mayCarry_95 rfl rfl ?_
              refine zw_goto (tgt := 100) dX5_mayCarry_96 rfl ?_
              refine zw_iret dX5_mayCarry_100 rfl (by decide) ?_
              exact hq _ h43 hI44 fr46 (Or.inr rfl)
          · have g41t : ((f6_4.getD q.toNatClampNeg 0)).toInt = (6 : Int32).toInt := congrArg Int32.toInt g41
            refine zx_W_ins (pc' := 69) dX5_mayCarry_68 rfl (fun _ => rfl) rfl ?_
            refine zw_ic (v := 1) (pc' := 70) dX5_mayCarry_69 rfl rfl ?_
            refine zw_icmp_le (tgt := 75) (pc' := 73) dX5_mayCarry_70 rfl rfl (fun g53 => ?_) (fun g53 => ?_)
            · refine zx_W_ins (pc' := 76) dX5_mayCarry_75 rfl (fun _ => rfl) rfl ?_
              refine zw_gf (pc' := 79) dX5_mayCarry_76 rfl rfl c2_1 rfl ?_
              refine zx_W_ins (pc' := 80) dX5_mayCarry_79 rfl (fun _ => rfl) rfl ?_
              refine zw_ial (pc' := 81) dX5_mayCarry_80 rfl c8_5 (zi_in (by have := l8_5; omega)) ?_
              refine zx_W_ins (pc' := 82) dX5_mayCarry_81 rfl (fun _ => rfl) rfl ?_
              refine zx_W_ins (pc' := 83) dX5_mayCarry_82 rfl (fun _ => rfl) rfl ?_
              refine zx_W_ins (pc' := 84) dX5_mayCarry_83 rfl (fun _ => rfl) rfl ?_
              refine zw_iv (k := 51) (pc' := 87) dX5_mayCarry_84 rfl rfl rfl rfl c2_1 rfl rfl (zc_load_2 hI (by omega) (fun v54 h55 hI56 fr57 _ => ?_))
              show zx_W _ _ _ _ _ _ _ [.inl v54, .inl (f8_5.getD q.toNatClampNeg 0)] _ _
              have fr58 : ∀ i, i ∉ ([] : List Nat) → h55[i]? = h[i]? := fun i hi => Eq.trans (fr57 i (fun z => hi (by first | exact absurd z List.not_mem_nil | (simp only [List.mem_cons, List.not_mem_nil, or_false] at z ⊢; omega)))) (fr0 i hi)
              have c59 : h55[2]? = some (.inl (5, [.inr (.inr (1, 3)), .inr (.inr (1, 8)), .inl bg1, .inl mo1, .inl le1, .inl na1, .inl on1, .inl bi1, .inl ra1, .inl wo1, .inl he1, .inl mi1, .inl se1])) := by rw [fr57 2 (by decide)]; exact c2_1
              have c60 : h55[3]? = some (.inl (6, [.inr (.inr (1, 4)), .inr (.inr (1, 5)), .inr (.inr (1, 6)), .inr (.inr (1, 7)), .inl fu2, .inl pe2])) := by rw [fr57 3 (by decide)]; exact c3_2
              have c61 : h55[4]? = some (.inr (0, .inl f4_3)) := by rw [fr57 4 (by decide)]; exact c4_3
              have c62 : h55[6]? = some (.inr (0, .inl f6_4)) := by rw [fr57 6 (by decide)]; exact c6_4
              have c63 : h55[8]? = some (.inr (0, .inl f8_5)) := by rw [fr57 8 (by decide)]; exact c8_5
              refine zx_W_ins (pc' := 88) dX5_mayCarry_87 rfl (fun _ => rfl) rfl ?_
              refine zx_W_ins (pc' := 89) dX5_mayCarry_88 rfl (fun _ => rfl) rfl ?_
              refine zw_gf (pc' := 92) dX5_mayCarry_89 rfl rfl c59 rfl ?_
              refine zw_icmp_gt (tgt := 99) (pc' := 95) dX5_mayCarry_92 rfl rfl (fun g64 => ?_) (fun g64 => ?_)
              · refine zw_ic (v := 0) (pc' := 100) dX5_mayCarry_99 rfl rfl ?_
                refine zw_iret dX5_mayCarry_100 rfl (by decide) ?_
                exact hq _ h55 hI56 fr58 (Or.inl rfl)
              · refine zw_ic (v := 1) (pc' := 96) dX5_mayCarry_95 rfl rfl ?_
                refine zw_goto (tgt := 100) dX5_mayCarry_96 rfl ?_
                refine zw_iret dX5_mayCarry_100 rfl (by decide) ?_
                exact hq _ h55 hI56 fr58 (Or.inr rfl)
            · refine zw_ic (v := 0) (pc' := 74) dX5_mayCarry_73 rfl rfl ?_
              refine zw_iret dX5_mayCarry_74 rfl (by decide) ?_
              exact hq _ h hI fr0 (Or.inl rfl)
        · have g40t : ((f6_4.getD q.toNatClampNeg 0)).toInt = (5 : Int32).toInt := congrArg Int32.toInt g40
          refine zx_W_ins (pc' := 54) dX5_mayCarry_53 rfl (fun _ => rfl) rfl ?_
          refine zw_iv (k := 48) (pc' := 57) dX5_mayCarry_54 rfl rfl rfl rfl c2_1 rfl rfl (zc_48 c2_1 (fun g65 _ => ?_) (fun g65 _ => ?_))
          · show zx_W _ _ _ _ _ _ _ [.inl 1] _ _
            refine zw_if_ne (tgt := 62) (pc' := 60) dX5_mayCarry_57 rfl rfl (fun _ => ?_) (fun g => by first | exact absurd rfl g | exact absurd g (by decide))
            refine zx_W_ins (pc' := 63) dX5_mayCarry_62 rfl (fun _ => rfl) rfl ?_
            refine zw_bi (v := 6) (pc' := 65) dX5_mayCarry_63 rfl rfl ?_
            refine zw_icmp_ne (tgt := 75) (pc' := 68) dX5_mayCarry_65 rfl rfl (fun g67 => ?_) (fun g67 => ?_)
            · have g67t : ¬ ((f6_4.getD q.toNatClampNeg 0)).toInt = (6 : Int32).toInt := fun z => g67 (Int32.toInt_inj.mp z)
              refine zx_W_ins (pc' := 76) dX5_mayCarry_75 rfl (fun _ => rfl) rfl ?_
              refine zw_gf (pc' := 79) dX5_mayCarry_76 rfl rfl c2_1 rfl ?_
              refine zx_W_ins (pc' := 80) dX5_mayCarry_79 rfl (fun _ => rfl) rfl ?_
              refine zw_ial (pc' := 81) dX5_mayCarry_80 rfl c8_5 (zi_in (by have := l8_5; omega)) ?_
              refine zx_W_ins (pc' := 82) dX5_mayCarry_81 rfl (fun _ => rfl) rfl ?_
              refine zx_W_ins (pc' := 83) dX5_mayCarry_82 rfl (fun _ => rfl) rfl ?_
              refine zx_W_ins (pc' := 84) dX5_mayCarry_83 rfl (fun _ => rfl) rfl ?_
              refine zw_iv (k := 51) (pc' := 87) dX5_mayCarry_84 rfl rfl rfl rfl c2_1 rfl rfl (zc_load_2 hI (by omega) (fun v68 h69 hI70 fr71 _ => ?_))
              show zx_W _ _ _ _ _ _ _ [.inl v68, .inl (f8_5.getD q.toNatClampNeg 0)] _ _
              have fr72 : ∀ i, i ∉ ([] : List Nat) → h69[i]? = h[i]? := fun i hi => Eq.trans (fr71 i (fun z => hi (by first | exact absurd z List.not_mem_nil | (simp only [List.mem_cons, List.not_mem_nil, or_false] at z ⊢; omega)))) (fr0 i hi)
              have c73 : h69[2]? = some (.inl (5, [.inr (.inr (1, 3)), .inr (.inr (1, 8)), .inl bg1, .inl mo1, .inl le1, .inl na1, .inl on1, .inl bi1, .inl ra1, .inl wo1, .inl he1, .inl mi1, .inl se1])) := by rw [fr71 2 (by decide)]; exact c2_1
              have c74 : h69[3]? = some (.inl (6, [.inr (.inr (1, 4)), .inr (.inr (1, 5)), .inr (.inr (1, 6)), .inr (.inr (1, 7)), .inl fu2, .inl pe2])) := by rw [fr71 3 (by decide)]; exact c3_2
              have c75 : h69[4]? = some (.inr (0, .inl f4_3)) := by rw [fr71 4 (by decide)]; exact c4_3
              have c76 : h69[6]? = some (.inr (0, .inl f6_4)) := by rw [fr71 6 (by decide)]; exact c6_4
              have c77 : h69[8]? = some (.inr (0, .inl f8_5)) := by rw [fr71 8 (by decide)]; exact c8_5
              refine zx_W_ins (pc' := 88) dX5_mayCarry_87 rfl (fun _ => rfl) rfl ?_
              refine zx_W_ins (pc' := 89) dX5_mayCarry_88 rfl (fun _ => rfl) rfl ?_
              refine zw_gf (pc' := 92) dX5_mayCarry_89 rfl rfl c73 rfl ?_
              refine zw_icmp_gt (tgt := 99) (pc' := 95) dX5_mayCarry_92 rfl rfl (fun g78 => ?_) (fun g78 => ?_)
              · refine zw_ic (v := 0) (pc' := 100) dX5_mayCarry_99 rfl rfl ?_
                refine zw_iret dX5_mayCarry_100 rfl (by decide) ?_
                exact hq _ h69 hI70 fr72 (Or.inl rfl)
              · refine zw_ic (v := 1) (pc' := 96) dX5_mayCarry_95 rfl rfl ?_
                refine zw_goto (tgt := 100) dX5_mayCarry_96 rfl ?_
                refine zw_iret dX5_mayCarry_100 rfl (by decide) ?_
                exact hq _ h69 hI70 fr72 (Or.inr rfl)
            · have g67t : ((f6_4.getD q.toNatClampNeg 0)).toInt = (6 : Int32).toInt := congrArg Int32.toInt g67
              refine zx_W_ins (pc' := 69) dX5_mayCarry_68 rfl (fun _ => rfl) rfl ?_
              refine zw_ic (v := 1) (pc' := 70) dX5_mayCarry_69 rfl rfl ?_
              refine zw_icmp_le (tgt := 75) (pc' := 73) dX5_mayCarry_70 rfl rfl (fun g79 => ?_) (fun g79 => ?_)
              · refine zx_W_ins (pc' := 76) dX5_mayCarry_75 rfl (fun _ => rfl) rfl ?_
                refine zw_gf (pc' := 79) dX5_mayCarry_76 rfl rfl c2_1 rfl ?_
                refine zx_W_ins (pc' := 80) dX5_mayCarry_79 rfl (fun _ => rfl) rfl ?_
                refine zw_ial (pc' := 81) dX5_mayCarry_80 rfl c8_5 (zi_in (by have := l8_5; omega)) ?_
                refine zx_W_ins (pc' := 82) dX5_mayCarry_81 rfl (fun _ => rfl) rfl ?_
                refine zx_W_ins (pc' := 83) dX5_mayCarry_82 rfl (fun _ => rfl) rfl ?_
                refine zx_W_ins (pc' := 84) dX5_mayCarry_83 rfl (fun _ => rfl) rfl ?_
                refine zw_iv (k := 51) (pc' := 87) dX5_mayCarry_84 rfl rfl rfl rfl c2_1 rfl rfl (zc_load_2 hI (by omega) (fun v80 h81 hI82 fr83 _ => ?_))
                show zx_W _ _ _ _ _ _ _ [.inl v80, .inl (f8_5.getD q.toNatClampNeg 0)] _ _
                have fr84 : ∀ i, i ∉ ([] : List Nat) → h81[i]? = h[i]? := fun i hi => Eq.trans (fr83 i (fun z => hi (by first | exact absurd z List.not_mem_nil | (simp only [List.mem_cons, List.not_mem_nil, or_false] at z ⊢; omega)))) (fr0 i hi)
                have c85 : h81[2]? = some (.inl (5, [.inr (.inr (1, 3)), .inr (.inr (1, 8)), .inl bg1, .inl mo1, .inl le1, .inl na1, .inl on1, .inl bi1, .inl ra1, .inl wo1, .inl he1, .inl mi1, .inl se1])) := by rw [fr83 2 (by decide)]; exact c2_1
                have c86 : h81[3]? = some (.inl (6, [.inr (.inr (1, 4)), .inr (.inr (1, 5)), .inr (.inr (1, 6)), .inr (.inr (1, 7)), .inl fu2, .inl pe2])) := by rw [fr83 3 (by decide)]; exact c3_2
                have c87 : h81[4]? = some (.inr (0, .inl f4_3)) := by rw [fr83 4 (by decide)]; exact c4_3
                have c88 : h81[6]? = some (.inr (0, .inl f6_4)) := by rw [fr83 6 (by decide)]; exact c6_4
                have c89 : h81[8]? = some (.inr (0, .inl f8_5)) := by rw [fr83 8 (by decide)]; exact c8_5
                refine zx_W_ins (pc' := 88) dX5_mayCarry_87 rfl (fun _ => rfl) rfl ?_
                refine zx_W_ins (pc' := 89) dX5_mayCarry_88 rfl (fun _ => rfl) rfl ?_
                refine zw_gf (pc' := 92) dX5_mayCarry_89 rfl rfl c85 rfl ?_
                refine zw_icmp_gt (tgt := 99) (pc' := 95) dX5_mayCarry_92 rfl rfl (fun g90 => ?_) (fun g90 => ?_)
                · refine zw_ic (v := 0) (pc' := 100) dX5_mayCarry_99 rfl rfl ?_
                  refine zw_iret dX5_mayCarry_100 rfl (by decide) ?_
                  exact hq _ h81 hI82 fr84 (Or.inl rfl)
                · refine zw_ic (v := 1) (pc' := 96) dX5_mayCarry_95 rfl rfl ?_
                  refine zw_goto (tgt := 100) dX5_mayCarry_96 rfl ?_
                  refine zw_iret dX5_mayCarry_100 rfl (by decide) ?_
                  exact hq _ h81 hI82 fr84 (Or.inr rfl)
              · refine zw_ic (v := 0) (pc' := 74) dX5_mayCarry_73 rfl rfl ?_
                refine zw_iret dX5_mayCarry_74 rfl (by decide) ?_
                exact hq _ h hI fr0 (Or.inl rfl)
          · show zx_W _ _ _ _ _ _ _ [.inl 0] _ _
            refine zw_if_ne (tgt := 62) (pc' := 60) dX5_mayCarry_57 rfl rfl (fun g => by first | exact absurd rfl g | exact absurd g (by decide)) (fun _ => ?_)
            refine zw_ic (v := 0) (pc' := 61) dX5_mayCarry_60 rfl rfl ?_
            refine zw_iret dX5_mayCarry_61 rfl (by decide) ?_
            exact hq _ h hI fr0 (Or.inl rfl)
  · show zx_W _ _ _ _ _ _ _ [.inl 0] _ _
    refine zw_if_eq (tgt := 18) (pc' := 11) dX5_mayCarry_8 rfl rfl (fun _ => ?_) (fun g => by first | exact absurd rfl g | exact absurd g (by decide))
    refine zw_ic (v := 0) (pc' := 19) dX5_mayCarry_18 rfl rfl ?_
    refine zw_iret dX5_mayCarry_19 rfl (by decide) ?_
    exact hq _ h hI fr0 (Or.inl rfl)
def zt_52 : zx_MT := (5, yX5_mayBe, cX5_mayBe, 2, (some FieldType.boolean), 1, 0)
theorem zm_52 : zx_m 52 = zt_52 := rfl
theorem dX5_mayBe_0 : decode cX5_mayBe 0 = .ok (.iload_n 1, 1) := by decide +kernel
theorem dX5_mayBe_1 : decode cX5_mayBe 1 = .ok (.tableswitch 99 6 9 #[31, 52, 73, 94], 31) := by decide +kernel
theorem dX5_mayBe_32 : decode cX5_mayBe 32 = .ok (.aload_n 0, 1) := by decide +kernel
theorem dX5_mayBe_33 : decode cX5_mayBe 33 = .ok (.invokevirtual 85, 3) := by decide +kernel
theorem dX5_mayBe_36 : decode cX5_mayBe 36 = .ok (.ifCond .eq 15, 3) := by decide +kernel
theorem dX5_mayBe_39 : decode cX5_mayBe 39 = .ok (.aload_n 0, 1) := by decide +kernel
theorem dX5_mayBe_40 : decode cX5_mayBe 40 = .ok (.getfield 22, 3) := by decide +kernel
theorem dX5_mayBe_43 : decode cX5_mayBe 43 = .ok (.iconst 1, 1) := by decide +kernel
theorem dX5_mayBe_44 : decode cX5_mayBe 44 = .ok (.if_icmp .lt 7, 3) := by decide +kernel
theorem dX5_mayBe_47 : decode cX5_mayBe 47 = .ok (.iconst 1, 1) := by decide +kernel
theorem dX5_mayBe_48 : decode cX5_mayBe 48 = .ok (.goto 4, 3) := by decide +kernel
theorem dX5_mayBe_51 : decode cX5_mayBe 51 = .ok (.iconst 0, 1) := by decide +kernel
theorem dX5_mayBe_52 : decode cX5_mayBe 52 = .ok (.ireturn, 1) := by decide +kernel
theorem dX5_mayBe_53 : decode cX5_mayBe 53 = .ok (.aload_n 0, 1) := by decide +kernel
theorem dX5_mayBe_54 : decode cX5_mayBe 54 = .ok (.invokevirtual 85, 3) := by decide +kernel
theorem dX5_mayBe_57 : decode cX5_mayBe 57 = .ok (.ifCond .eq 15, 3) := by decide +kernel
theorem dX5_mayBe_60 : decode cX5_mayBe 60 = .ok (.aload_n 0, 1) := by decide +kernel
theorem dX5_mayBe_61 : decode cX5_mayBe 61 = .ok (.getfield 31, 3) := by decide +kernel
theorem dX5_mayBe_64 : decode cX5_mayBe 64 = .ok (.iconst 1, 1) := by decide +kernel
theorem dX5_mayBe_65 : decode cX5_mayBe 65 = .ok (.if_icmp .lt 7, 3) := by decide +kernel
theorem dX5_mayBe_68 : decode cX5_mayBe 68 = .ok (.iconst 1, 1) := by decide +kernel
theorem dX5_mayBe_69 : decode cX5_mayBe 69 = .ok (.goto 4, 3) := by decide +kernel
theorem dX5_mayBe_72 : decode cX5_mayBe 72 = .ok (.iconst 0, 1) := by decide +kernel
theorem dX5_mayBe_73 : decode cX5_mayBe 73 = .ok (.ireturn, 1) := by decide +kernel
theorem dX5_mayBe_74 : decode cX5_mayBe 74 = .ok (.aload_n 0, 1) := by decide +kernel
theorem dX5_mayBe_75 : decode cX5_mayBe 75 = .ok (.invokevirtual 85, 3) := by decide +kernel
theorem dX5_mayBe_78 : decode cX5_mayBe 78 = .ok (.ifCond .eq 15, 3) := by decide +kernel
theorem dX5_mayBe_81 : decode cX5_mayBe 81 = .ok (.aload_n 0, 1) := by decide +kernel
theorem dX5_mayBe_82 : decode cX5_mayBe 82 = .ok (.getfield 34, 3) := by decide +kernel
theorem dX5_mayBe_85 : decode cX5_mayBe 85 = .ok (.iconst 1, 1) := by decide +kernel
theorem dX5_mayBe_86 : decode cX5_mayBe 86 = .ok (.if_icmp .lt 7, 3) := by decide +kernel
theorem dX5_mayBe_89 : decode cX5_mayBe 89 = .ok (.iconst 1, 1) := by decide +kernel
theorem dX5_mayBe_90 : decode cX5_mayBe 90 = .ok (.goto 4, 3) := by decide +kernel
theorem dX5_mayBe_93 : decode cX5_mayBe 93 = .ok (.iconst 0, 1) := by decide +kernel
theorem dX5_mayBe_94 : decode cX5_mayBe 94 = .ok (.ireturn, 1) := by decide +kernel
theorem dX5_mayBe_95 : decode cX5_mayBe 95 = .ok (.aload_n 0, 1) := by decide +kernel
theorem dX5_mayBe_96 : decode cX5_mayBe 96 = .ok (.invokevirtual 89, 3) := by decide +kernel
theorem dX5_mayBe_99 : decode cX5_mayBe 99 = .ok (.ireturn, 1) := by decide +kernel
theorem dX5_mayBe_100 : decode cX5_mayBe 100 = .ok (.aload_n 0, 1) := by decide +kernel
theorem dX5_mayBe_101 : decode cX5_mayBe 101 = .ok (.iload_n 1, 1) := by decide +kernel
theorem dX5_mayBe_102 : decode cX5_mayBe 102 = .ok (.invokevirtual 92, 3) := by decide +kernel
theorem dX5_mayBe_105 : decode cX5_mayBe 105 = .ok (.ireturn, 1) := by decide +kernel
theorem zc_mayBe_2 {d : Nat} {h : List zx_C} {q : Int32} {Q : Option zx_V → List zx_C → Prop} (hI : zx_I h)    (hq : ∀ (v : Int32) (h2 : List zx_C), zx_I h2 → (∀ i, i ∉ ([] : List Nat) → h2[i]? = h[i]?) → (v = 0 ∨ v = 1) → Q (some (.inl v)) h2) : zx_M (d + 2) 52 [.inr (.inr (1, 2)), .inl q] h Q := by
  have el_0 : (0 : Int32).toInt = 0 := by decide
  have el_1 : (1 : Int32).toInt = 1 := by decide
  obtain ⟨x1, c2_1, bg1, mo1, le1, na1, on1, bi1, ra1, wo1, he1, mi1, se1, rfl, hh1, hk1⟩ := zi_g hI 2 (by decide)
  have fr0 : ∀ i, i ∉ ([] : List Nat) → h[i]? = h[i]? := fun _ _ => rfl
  refine zx_M_of (Nat.le_of_ble_eq_true rfl) zm_52 (L := [some (.inr (.inr (1, 2))), some (.inl q)]) rfl ?_
  refine zx_W_ins (pc' := 1) dX5_mayBe_0 rfl (fun _ => rfl) rfl ?_
  refine zw_tsc (tgd := 100) dX5_mayBe_1 rfl [32, 53, 74, 95] (by decide) (by decide) (fun g2 => ?_) (zl_cons (fun g2 => ?_) (zl_cons (fun g2 => ?_) (zl_cons (fun g2 => ?_) (zl_cons (fun g2 => ?_) (zl_nil)))))
  · refine zx_W_ins (pc' := 101) dX5_mayBe_100 rfl (fun _ => rfl) rfl ?_
    refine zx_W_ins (pc' := 102) dX5_mayBe_101 rfl (fun _ => rfl) rfl ?_
    refine zw_iv (k := 53) (pc' := 105) dX5_mayBe_102 rfl rfl rfl rfl c2_1 rfl rfl (zc_mayCarry_2 hI (fun v3 h4 hI5 fr6 hvv3 _ => ?_))
    show zx_W _ _ _ _ _ _ _ [.inl v3] _ _
    have fr7 : ∀ i, i ∉ ([] : List Nat) → h4[i]? = h[i]? := fun i hi => Eq.trans (fr6 i (fun z => hi (by first | exact absurd z List.not_mem_nil | (simp only [List.mem_cons, List.not_mem_nil, or_false] at z ⊢; omega)))) (fr0 i hi)
    have c8 : h4[2]? = some (.inl (5, [.inr (.inr (1, 3)), .inr (.inr (1, 8)), .inl bg1, .inl mo1, .inl le1, .inl na1, .inl on1, .inl bi1, .inl ra1, .inl wo1, .inl he1, .inl mi1, .inl se1])) := by rw [fr6 2 (by decide)]; exact c2_1
    refine zw_iret dX5_mayBe_105 rfl (by rcases hvv3 with e | e <;> rw [e] <;> decide) ?_
    exact hq _ h4 hI5 fr7 hvv3
  · refine zx_W_ins (pc' := 33) dX5_mayBe_32 rfl (fun _ => rfl) rfl ?_
    refine zw_iv (k := 54) (pc' := 36) dX5_mayBe_33 rfl rfl rfl rfl c2_1 rfl rfl (zc_mayWalk_2 hI (fun v9 h10 hI11 fr12 hvv9 _ => ?_))
    show zx_W _ _ _ _ _ _ _ [.inl v9] _ _
    have fr13 : ∀ i, i ∉ ([] : List Nat) → h10[i]? = h[i]? := fun i hi => Eq.trans (fr12 i (fun z => hi (by first | exact absurd z List.not_mem_nil | (simp only [List.mem_cons, List.not_mem_nil, or_false] at z ⊢; omega)))) (fr0 i hi)
    have c14 : h10[2]? = some (.inl (5, [.inr (.inr (1, 3)), .inr (.inr (1, 8)), .inl bg1, .inl mo1, .inl le1, .inl na1, .inl on1, .inl bi1, .inl ra1, .inl wo1, .inl he1, .inl mi1, .inl se1])) := by rw [fr12 2 (by decide)]; exact c2_1
    refine zw_if_eq (tgt := 51) (pc' := 39) dX5_mayBe_36 rfl rfl (fun g15 => ?_) (fun g15 => ?_)
    · have g15t : (v9).toInt = (0 : Int32).toInt := congrArg Int32.toInt g15
      refine zw_ic (v := 0) (pc' := 52) dX5_mayBe_51 rfl rfl ?_
      refine zw_iret dX5_mayBe_52 rfl (by decide) ?_
      exact hq _ h10 hI11 fr13 (Or.inl rfl)
    · have g15t : ¬ (v9).toInt = (0 : Int32).toInt := fun z => g15 (Int32.toInt_inj.mp z)
      refine zx_W_ins (pc' := 40) dX5_mayBe_39 rfl (fun _ => rfl) rfl ?_
      refine zw_gf (pc' := 43) dX5_mayBe_40 rfl rfl c14 rfl ?_
      refine zw_ic (v := 1) (pc' := 44) dX5_mayBe_43 rfl rfl ?_
      refine zw_icmp_lt (tgt := 51) (pc' := 47) dX5_mayBe_44 rfl rfl (fun g16 => ?_) (fun g16 => ?_)
      · refine zw_ic (v := 0) (pc' := 52) dX5_mayBe_51 rfl rfl ?_
        refine zw_iret dX5_mayBe_52 rfl (by decide) ?_
        exact hq _ h10 hI11 fr13 (Or.inl rfl)
      · refine zw_ic (v := 1) (pc' := 48) dX5_mayBe_47 rfl rfl ?_
        refine zw_goto (tgt := 52) dX5_mayBe_48 rfl ?_
        refine zw_iret dX5_mayBe_52 rfl (by decide) ?_
        exact hq _ h10 hI11 fr13 (Or.inr rfl)
  · refine zx_W_ins (pc' := 54) dX5_mayBe_53 rfl (fun _ => rfl) rfl ?_
    refine zw_iv (k := 54) (pc' := 57) dX5_mayBe_54 rfl rfl rfl rfl c2_1 rfl rfl (zc_mayWalk_2 hI (fun v17 h18 hI19 fr20 hvv17 _ => ?_))
    show zx_W _ _ _ _ _ _ _ [.inl v17] _ _
    have fr21 : ∀ i, i ∉ ([] : List Nat) → h18[i]? = h[i]? := fun i hi => Eq.trans (fr20 i (fun z => hi (by first | exact absurd z List.not_mem_nil | (simp only [List.mem_cons, List.not_mem_nil, or_false] at z ⊢; omega)))) (fr0 i hi)
    have c22 : h18[2]? = some (.inl (5, [.inr (.inr (1, 3)), .inr (.inr (1, 8)), .inl bg1, .inl mo1, .inl le1, .inl na1, .inl on1, .inl bi1, .inl ra1, .inl wo1, .inl he1, .inl mi1, .inl se1])) := by rw [fr20 2 (by decide)]; exact c2_1
    refine zw_if_eq (tgt := 72) (pc' := 60) dX5_mayBe_57 rfl rfl (fun g23 => ?_) (fun g23 => ?_)
    · have g23t : (v17).toInt = (0 : Int32).toInt := congrArg Int32.toInt g23
      refine zw_ic (v := 0) (pc' := 73) dX5_mayBe_72 rfl rfl ?_
      refine zw_iret dX5_mayBe_73 rfl (by decide) ?_
      exact hq _ h18 hI19 fr21 (Or.inl rfl)
    · have g23t : ¬ (v17).toInt = (0 : Int32).toInt := fun z => g23 (Int32.toInt_inj.mp z)
      refine zx_W_ins (pc' := 61) dX5_mayBe_60 rfl (fun _ => rfl) rfl ?_
      refine zw_gf (pc' := 64) dX5_mayBe_61 rfl rfl c22 rfl ?_
      refine zw_ic (v := 1) (pc' := 65) dX5_mayBe_64 rfl rfl ?_
      refine zw_icmp_lt (tgt := 72) (pc' := 68) dX5_mayBe_65 rfl rfl (fun g24 => ?_) (fun g24 => ?_)
      · refine zw_ic (v := 0) (pc' := 73) dX5_mayBe_72 rfl rfl ?_
        refine zw_iret dX5_mayBe_73 rfl (by decide) ?_
        exact hq _ h18 hI19 fr21 (Or.inl rfl)
      · refine zw_ic (v := 1) (pc' := 69) dX5_mayBe_68 rfl rfl ?_
        refine zw_goto (tgt := 73) dX5_mayBe_69 rfl ?_
        refine zw_iret dX5_mayBe_73 rfl (by decide) ?_
        exact hq _ h18 hI19 fr21 (Or.inr rfl)
  · refine zx_W_ins (pc' := 75) dX5_mayBe_74 rfl (fun _ => rfl) rfl ?_
    refine zw_iv (k := 54) (pc' := 78) dX5_mayBe_75 rfl rfl rfl rfl c2_1 rfl rfl (zc_mayWalk_2 hI (fun v25 h26 hI27 fr28 hvv25 _ => ?_))
    show zx_W _ _ _ _ _ _ _ [.inl v25] _ _
    have fr29 : ∀ i, i ∉ ([] : List Nat) → h26[i]? = h[i]? := fun i hi => Eq.trans (fr28 i (fun z => hi (by first | exact absurd z List.not_mem_nil | (simp only [List.mem_cons, List.not_mem_nil, or_false] at z ⊢; omega)))) (fr0 i hi)
    have c30 : h26[2]? = some (.inl (5, [.inr (.inr (1, 3)), .inr (.inr (1, 8)), .inl bg1, .inl mo1, .inl le1, .inl na1, .inl on1, .inl bi1, .inl ra1, .inl wo1, .inl he1, .inl mi1, .inl se1])) := by rw [fr28 2 (by decide)]; exact c2_1
    refine zw_if_eq (tgt := 93) (pc' := 81) dX5_mayBe_78 rfl rfl (fun g31 => ?_) (fun g31 => ?_)
    · have g31t : (v25).toInt = (0 : Int32).toInt := congrArg Int32.toInt g31
      refine zw_ic (v := 0) (pc' := 94) dX5_mayBe_93 rfl rfl ?_
      refine zw_iret dX5_mayBe_94 rfl (by decide) ?_
      exact hq _ h26 hI27 fr29 (Or.inl rfl)
    · have g31t : ¬ (v25).toInt = (0 : Int32).toInt := fun z => g31 (Int32.toInt_inj.mp z)
      refine zx_W_ins (pc' := 82) dX5_mayBe_81 rfl (fun _ => rfl) rfl ?_
      refine zw_gf (pc' := 85) dX5_mayBe_82 rfl rfl c30 rfl ?_
      refine zw_ic (v := 1) (pc' := 86) dX5_mayBe_85 rfl rfl ?_
      refine zw_icmp_lt (tgt := 93) (pc' := 89) dX5_mayBe_86 rfl rfl (fun g32 => ?_) (fun g32 => ?_)
      · refine zw_ic (v := 0) (pc' := 94) dX5_mayBe_93 rfl rfl ?_
        refine zw_iret dX5_mayBe_94 rfl (by decide) ?_
        exact hq _ h26 hI27 fr29 (Or.inl rfl)
      · refine zw_ic (v := 1) (pc' := 90) dX5_mayBe_89 rfl rfl ?_
        refine zw_goto (tgt := 94) dX5_mayBe_90 rfl ?_
        refine zw_iret dX5_mayBe_94 rfl (by decide) ?_
        exact hq _ h26 hI27 fr29 (Or.inr rfl)
  · refine zx_W_ins (pc' := 96) dX5_mayBe_95 rfl (fun _ => rfl) rfl ?_
    refine zw_iv (k := 55) (pc' := 99) dX5_mayBe_96 rfl rfl rfl rfl c2_1 rfl rfl (zc_mayRest_2 hI (fun v33 h34 hI35 fr36 hvv33 _ => ?_))
    show zx_W _ _ _ _ _ _ _ [.inl v33] _ _
    have fr37 : ∀ i, i ∉ ([] : List Nat) → h34[i]? = h[i]? := fun i hi => Eq.trans (fr36 i (fun z => hi (by first | exact absurd z List.not_mem_nil | (simp only [List.mem_cons, List.not_mem_nil, or_false] at z ⊢; omega)))) (fr0 i hi)
    have c38 : h34[2]? = some (.inl (5, [.inr (.inr (1, 3)), .inr (.inr (1, 8)), .inl bg1, .inl mo1, .inl le1, .inl na1, .inl on1, .inl bi1, .inl ra1, .inl wo1, .inl he1, .inl mi1, .inl se1])) := by rw [fr36 2 (by decide)]; exact c2_1
    refine zw_iret dX5_mayBe_99 rfl (by rcases hvv33 with e | e <;> rw [e] <;> decide) ?_
    exact hq _ h34 hI35 fr37 hvv33
def zt_85 : zx_MT := (7, yX7_may, cX7_may, 2, (some FieldType.int), 1, 0)
theorem zm_85 : zx_m 85 = zt_85 := rfl
theorem dX7_may_0 : decode cX7_may 0 = .ok (.iload_n 1, 1) := by decide +kernel
theorem dX7_may_1 : decode cX7_may 1 = .ok (.ifCond .lt 9, 3) := by decide +kernel
theorem dX7_may_4 : decode cX7_may 4 = .ok (.iload_n 1, 1) := by decide +kernel
theorem dX7_may_5 : decode cX7_may 5 = .ok (.bipush 10, 2) := by decide +kernel
theorem dX7_may_7 : decode cX7_may 7 = .ok (.if_icmp .lt 10, 3) := by decide +kernel
theorem dX7_may_10 : decode cX7_may 10 = .ok (.aload_n 0, 1) := by decide +kernel
theorem dX7_may_11 : decode cX7_may 11 = .ok (.bipush 6, 2) := by decide +kernel
theorem dX7_may_13 : decode cX7_may 13 = .ok (.invokevirtual 82, 3) := by decide +kernel
theorem dX7_may_16 : decode cX7_may 16 = .ok (.ireturn, 1) := by decide +kernel
theorem dX7_may_17 : decode cX7_may 17 = .ok (.aload_n 0, 1) := by decide +kernel
theorem dX7_may_18 : decode cX7_may 18 = .ok (.getfield 23, 3) := by decide +kernel
theorem dX7_may_21 : decode cX7_may 21 = .ok (.iload_n 1, 1) := by decide +kernel
theorem dX7_may_22 : decode cX7_may 22 = .ok (.invokevirtual 208, 3) := by decide +kernel
theorem dX7_may_25 : decode cX7_may 25 = .ok (.ifCond .eq 7, 3) := by decide +kernel
theorem dX7_may_28 : decode cX7_may 28 = .ok (.iconst 1, 1) := by decide +kernel
theorem dX7_may_29 : decode cX7_may 29 = .ok (.goto 4, 3) := by decide +kernel
theorem dX7_may_32 : decode cX7_may 32 = .ok (.iconst 0, 1) := by decide +kernel
theorem dX7_may_33 : decode cX7_may 33 = .ok (.ireturn, 1) := by decide +kernel
theorem zc_85 {d : Nat} {h : List zx_C} {q : Int32} {Q : Option zx_V → List zx_C → Prop} (hI : zx_I h)    (hq : ∀ (v : Int32) (h2 : List zx_C), zx_I h2 → (∀ i, i ∉ ([46] : List Nat) → h2[i]? = h[i]?) → Q (some (.inl v)) h2) : zx_M (d + 3) 85 [.inr (.inr (1, 0)), .inl q] h Q := by
  have el_0 : (0 : Int32).toInt = 0 := by decide
  have el_1 : (1 : Int32).toInt = 1 := by decide
  have el_6 : (6 : Int32).toInt = 6 := by decide
  have el_10 : (10 : Int32).toInt = 10 := by decide
  obtain ⟨x1, c0_1, it1, lf1, rfl, hit1⟩ := zi_g hI 0 (by decide)
  obtain ⟨x2, c2_2, bg2, mo2, le2, na2, on2, bi2, ra2, wo2, he2, mi2, se2, rfl, hh2, hk2⟩ := zi_g hI 2 (by decide)
  have fr0 : ∀ i, i ∉ ([46] : List Nat) → h[i]? = h[i]? := fun _ _ => rfl
  refine zx_M_of (Nat.le_of_ble_eq_true rfl) zm_85 (L := [some (.inr (.inr (1, 0))), some (.inl q)]) rfl ?_
  refine zx_W_ins (pc' := 1) dX7_may_0 rfl (fun _ => rfl) rfl ?_
  refine zw_if_lt (tgt := 10) (pc' := 4) dX7_may_1 rfl rfl (fun g3 => ?_) (fun g3 => ?_)
  · refine zx_W_ins (pc' := 11) dX7_may_10 rfl (fun _ => rfl) rfl ?_
    refine zw_bi (v := 6) (pc' := 13) dX7_may_11 rfl rfl ?_
    refine zw_iv (k := 109) (pc' := 16) dX7_may_13 rfl rfl rfl rfl c0_1 rfl rfl (zc_109 hI (by omega) (fun v4 h5 hI6 fr7 hvv4 _ => ?_))
    show zx_W _ _ _ _ _ _ _ [.inl v4] _ _
    have fr8 : ∀ i, i ∉ ([46] : List Nat) → h5[i]? = h[i]? := fun i hi => Eq.trans (fr7 i (fun z => hi (by first | exact absurd z List.not_mem_nil | (simp only [List.mem_cons, List.not_mem_nil, or_false] at z ⊢; omega)))) (fr0 i hi)
    have c9 : h5[0]? = some (.inl (7, [.inr (.inr (1, 1)), .inr (.inr (1, 2)), .inr (.inr (1, 9)), .inr (.inr (1, 16)), .inr (.inr (1, 18)), .inr (.inr (1, 21)), .inr (.inr (1, 35)), .inr (.inr (1, 44)), .inr (.inr (1, 46)), .inl it1, .inl lf1])) := by rw [fr7 0 (by decide)]; exact c0_1
    have c10 : h5[2]? = some (.inl (5, [.inr (.inr (1, 3)), .inr (.inr (1, 8)), .inl bg2, .inl mo2, .inl le2, .inl na2, .inl on2, .inl bi2, .inl ra2, .inl wo2, .inl he2, .inl mi2, .inl se2])) := by rw [fr7 2 (by decide)]; exact c2_2
    obtain ⟨x11, c46_11, f46_11, rfl, l46_11⟩ := zi_g hI6 46 (by decide)
    refine zw_iret dX7_may_16 rfl rfl ?_
    exact hq _ h5 hI6 fr8
  · refine zx_W_ins (pc' := 5) dX7_may_4 rfl (fun _ => rfl) rfl ?_
    refine zw_bi (v := 10) (pc' := 7) dX7_may_5 rfl rfl ?_
    refine zw_icmp_lt (tgt := 17) (pc' := 10) dX7_may_7 rfl rfl (fun g12 => ?_) (fun g12 => ?_)
    · refine zx_W_ins (pc' := 18) dX7_may_17 rfl (fun _ => rfl) rfl ?_
      refine zw_gf (pc' := 21) dX7_may_18 rfl rfl c0_1 rfl ?_
      refine zx_W_ins (pc' := 22) dX7_may_21 rfl (fun _ => rfl) rfl ?_
      refine zw_iv (k := 52) (pc' := 25) dX7_may_22 rfl rfl rfl rfl c2_2 rfl rfl (zc_mayBe_2 hI (fun v13 h14 hI15 fr16 hvv13 _ => ?_))
      show zx_W _ _ _ _ _ _ _ [.inl v13] _ _
      have fr17 : ∀ i, i ∉ ([46] : List Nat) → h14[i]? = h[i]? := fun i hi => Eq.trans (fr16 i (fun z => hi (by first | exact absurd z List.not_mem_nil | (simp only [List.mem_cons, List.not_mem_nil, or_false] at z ⊢; omega)))) (fr0 i hi)
      have c18 : h14[0]? = some (.inl (7, [.inr (.inr (1, 1)), .inr (.inr (1, 2)), .inr (.inr (1, 9)), .inr (.inr (1, 16)), .inr (.inr (1, 18)), .inr (.inr (1, 21)), .inr (.inr (1, 35)), .inr (.inr (1, 44)), .inr (.inr (1, 46)), .inl it1, .inl lf1])) := by rw [fr16 0 (by decide)]; exact c0_1
      have c19 : h14[2]? = some (.inl (5, [.inr (.inr (1, 3)), .inr (.inr (1, 8)), .inl bg2, .inl mo2, .inl le2, .inl na2, .inl on2, .inl bi2, .inl ra2, .inl wo2, .inl he2, .inl mi2, .inl se2])) := by rw [fr16 2 (by decide)]; exact c2_2
      refine zw_if_eq (tgt := 32) (pc' := 28) dX7_may_25 rfl rfl (fun g20 => ?_) (fun g20 => ?_)
      · have g20t : (v13).toInt = (0 : Int32).toInt := congrArg Int32.toInt g20
        refine zw_ic (v := 0) (pc' := 33) dX7_may_32 rfl rfl ?_
        refine zw_iret dX7_may_33 rfl rfl ?_
        exact hq _ h14 hI15 fr17
      · have g20t : ¬ (v13).toInt = (0 : Int32).toInt := fun z => g20 (Int32.toInt_inj.mp z)
        refine zw_ic (v := 1) (pc' := 29) dX7_may_28 rfl rfl ?_
        refine zw_goto (tgt := 33) dX7_may_29 rfl ?_
        refine zw_iret dX7_may_33 rfl rfl ?_
        exact hq _ h14 hI15 fr17
    · refine zx_W_ins (pc' := 11) dX7_may_10 rfl (fun _ => rfl) rfl ?_
      refine zw_bi (v := 6) (pc' := 13) dX7_may_11 rfl rfl ?_
      refine zw_iv (k := 109) (pc' := 16) dX7_may_13 rfl rfl rfl rfl c0_1 rfl rfl (zc_109 hI (by omega) (fun v21 h22 hI23 fr24 hvv21 _ => ?_))
      show zx_W _ _ _ _ _ _ _ [.inl v21] _ _
      have fr25 : ∀ i, i ∉ ([46] : List Nat) → h22[i]? = h[i]? := fun i hi => Eq.trans (fr24 i (fun z => hi (by first | exact absurd z List.not_mem_nil | (simp only [List.mem_cons, List.not_mem_nil, or_false] at z ⊢; omega)))) (fr0 i hi)
      have c26 : h22[0]? = some (.inl (7, [.inr (.inr (1, 1)), .inr (.inr (1, 2)), .inr (.inr (1, 9)), .inr (.inr (1, 16)), .inr (.inr (1, 18)), .inr (.inr (1, 21)), .inr (.inr (1, 35)), .inr (.inr (1, 44)), .inr (.inr (1, 46)), .inl it1, .inl lf1])) := by rw [fr24 0 (by decide)]; exact c0_1
      have c27 : h22[2]? = some (.inl (5, [.inr (.inr (1, 3)), .inr (.inr (1, 8)), .inl bg2, .inl mo2, .inl le2, .inl na2, .inl on2, .inl bi2, .inl ra2, .inl wo2, .inl he2, .inl mi2, .inl se2])) := by rw [fr24 2 (by decide)]; exact c2_2
      obtain ⟨x28, c46_28, f46_28, rfl, l46_28⟩ := zi_g hI23 46 (by decide)
      refine zw_iret dX7_may_16 rfl rfl ?_
      exact hq _ h22 hI23 fr25
