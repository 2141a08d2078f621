/-! part 40: methods 162..: laid by wip/flat/dec.py -/
def zt_162 : zx_MT := (8, yX8_way, cX8_way, 5, (some FieldType.int), 1, 0)
theorem zm_162 : zx_m 162 = zt_162 := rfl
theorem dX8_way_r0 : zdcP cX8_way 0 [(.aload_n 0, 1), (.iload_n 1, 1), (.invokevirtual 130, 3), (.istore_n 2, 1), (.iload_n 2, 1), (.ifCond .eq 9, 3), (.aload_n 0, 1), (.iload_n 2, 1), (.invokevirtual 115, 3), (.ireturn, 1), (.aload_n 0, 1), (.aload_n 0, 1), (.getfield 84, 3), (.iconst 0, 1), (.iconst 0, 1), (.invokevirtual 213, 3)] := zdcA_ok (by decide +kernel)
theorem dX8_way_0 : decode cX8_way 0 = .ok (.aload_n 0, 1) := dX8_way_r0.1
theorem dX8_way_1 : decode cX8_way 1 = .ok (.iload_n 1, 1) := dX8_way_r0.2.1
theorem dX8_way_2 : decode cX8_way 2 = .ok (.invokevirtual 130, 3) := dX8_way_r0.2.2.1
theorem dX8_way_5 : decode cX8_way 5 = .ok (.istore_n 2, 1) := dX8_way_r0.2.2.2.1
theorem dX8_way_6 : decode cX8_way 6 = .ok (.iload_n 2, 1) := dX8_way_r0.2.2.2.2.1
theorem dX8_way_7 : decode cX8_way 7 = .ok (.ifCond .eq 9, 3) := dX8_way_r0.2.2.2.2.2.1
theorem dX8_way_10 : decode cX8_way 10 = .ok (.aload_n 0, 1) := dX8_way_r0.2.2.2.2.2.2.1
theorem dX8_way_11 : decode cX8_way 11 = .ok (.iload_n 2, 1) := dX8_way_r0.2.2.2.2.2.2.2.1
theorem dX8_way_12 : decode cX8_way 12 = .ok (.invokevirtual 115, 3) := dX8_way_r0.2.2.2.2.2.2.2.2.1
theorem dX8_way_15 : decode cX8_way 15 = .ok (.ireturn, 1) := dX8_way_r0.2.2.2.2.2.2.2.2.2.1
theorem dX8_way_16 : decode cX8_way 16 = .ok (.aload_n 0, 1) := dX8_way_r0.2.2.2.2.2.2.2.2.2.2.1
theorem dX8_way_17 : decode cX8_way 17 = .ok (.aload_n 0, 1) := dX8_way_r0.2.2.2.2.2.2.2.2.2.2.2.1
theorem dX8_way_18 : decode cX8_way 18 = .ok (.getfield 84, 3) := dX8_way_r0.2.2.2.2.2.2.2.2.2.2.2.2.1
theorem dX8_way_21 : decode cX8_way 21 = .ok (.iconst 0, 1) := dX8_way_r0.2.2.2.2.2.2.2.2.2.2.2.2.2.1
theorem dX8_way_22 : decode cX8_way 22 = .ok (.iconst 0, 1) := dX8_way_r0.2.2.2.2.2.2.2.2.2.2.2.2.2.2.1
theorem dX8_way_23 : decode cX8_way 23 = .ok (.invokevirtual 213, 3) := dX8_way_r0.2.2.2.2.2.2.2.2.2.2.2.2.2.2.2.1
theorem dX8_way_r26 : zdcP cX8_way 26 [(.aload_n 0, 1), (.sipush 160, 3), (.iload_n 1, 1), (.imul, 1), (.putfield 168, 3), (.aload_n 0, 1), (.iconst 0, 1), (.putfield 162, 3), (.aload_n 0, 1), (.aload_n 0, 1), (.getfield 62, 3), (.iload_n 1, 1), (.iaload, 1), (.putfield 165, 3), (.aload_n 0, 1), (.iconst (-1), 1)] := zdcA_ok (by decide +kernel)
theorem dX8_way_26 : decode cX8_way 26 = .ok (.aload_n 0, 1) := dX8_way_r26.1
theorem dX8_way_27 : decode cX8_way 27 = .ok (.sipush 160, 3) := dX8_way_r26.2.1
theorem dX8_way_30 : decode cX8_way 30 = .ok (.iload_n 1, 1) := dX8_way_r26.2.2.1
theorem dX8_way_31 : decode cX8_way 31 = .ok (.imul, 1) := dX8_way_r26.2.2.2.1
theorem dX8_way_32 : decode cX8_way 32 = .ok (.putfield 168, 3) := dX8_way_r26.2.2.2.2.1
theorem dX8_way_35 : decode cX8_way 35 = .ok (.aload_n 0, 1) := dX8_way_r26.2.2.2.2.2.1
theorem dX8_way_36 : decode cX8_way 36 = .ok (.iconst 0, 1) := dX8_way_r26.2.2.2.2.2.2.1
theorem dX8_way_37 : decode cX8_way 37 = .ok (.putfield 162, 3) := dX8_way_r26.2.2.2.2.2.2.2.1
theorem dX8_way_40 : decode cX8_way 40 = .ok (.aload_n 0, 1) := dX8_way_r26.2.2.2.2.2.2.2.2.1
theorem dX8_way_41 : decode cX8_way 41 = .ok (.aload_n 0, 1) := dX8_way_r26.2.2.2.2.2.2.2.2.2.1
theorem dX8_way_42 : decode cX8_way 42 = .ok (.getfield 62, 3) := dX8_way_r26.2.2.2.2.2.2.2.2.2.2.1
theorem dX8_way_45 : decode cX8_way 45 = .ok (.iload_n 1, 1) := dX8_way_r26.2.2.2.2.2.2.2.2.2.2.2.1
theorem dX8_way_46 : decode cX8_way 46 = .ok (.iaload, 1) := dX8_way_r26.2.2.2.2.2.2.2.2.2.2.2.2.1
theorem dX8_way_47 : decode cX8_way 47 = .ok (.putfield 165, 3) := dX8_way_r26.2.2.2.2.2.2.2.2.2.2.2.2.2.1
theorem dX8_way_50 : decode cX8_way 50 = .ok (.aload_n 0, 1) := dX8_way_r26.2.2.2.2.2.2.2.2.2.2.2.2.2.2.1
theorem dX8_way_51 : decode cX8_way 51 = .ok (.iconst (-1), 1) := dX8_way_r26.2.2.2.2.2.2.2.2.2.2.2.2.2.2.2.1
theorem dX8_way_r52 : zdcP cX8_way 52 [(.putfield 34, 3), (.iconst 1, 1), (.istore_n 3, 1), (.aload_n 0, 1), (.invokevirtual 217, 3), (.istore 4, 2), (.iload 4, 2), (.ifCond .eq 69, 3), (.aload_n 0, 1), (.getfield 162, 3), (.aload_n 0, 1), (.getfield 165, 3), (.if_icmp .ge 58, 3), (.aload_n 0, 1), (.getfield 68, 3), (.aload_n 0, 1)] := zdcA_ok (by decide +kernel)
theorem dX8_way_52 : decode cX8_way 52 = .ok (.putfield 34, 3) := dX8_way_r52.1
theorem dX8_way_55 : decode cX8_way 55 = .ok (.iconst 1, 1) := dX8_way_r52.2.1
theorem dX8_way_56 : decode cX8_way 56 = .ok (.istore_n 3, 1) := dX8_way_r52.2.2.1
theorem dX8_way_57 : decode cX8_way 57 = .ok (.aload_n 0, 1) := dX8_way_r52.2.2.2.1
theorem dX8_way_58 : decode cX8_way 58 = .ok (.invokevirtual 217, 3) := dX8_way_r52.2.2.2.2.1
theorem dX8_way_61 : decode cX8_way 61 = .ok (.istore 4, 2) := dX8_way_r52.2.2.2.2.2.1
theorem dX8_way_63 : decode cX8_way 63 = .ok (.iload 4, 2) := dX8_way_r52.2.2.2.2.2.2.1
theorem dX8_way_65 : decode cX8_way 65 = .ok (.ifCond .eq 69, 3) := dX8_way_r52.2.2.2.2.2.2.2.1
theorem dX8_way_68 : decode cX8_way 68 = .ok (.aload_n 0, 1) := dX8_way_r52.2.2.2.2.2.2.2.2.1
theorem dX8_way_69 : decode cX8_way 69 = .ok (.getfield 162, 3) := dX8_way_r52.2.2.2.2.2.2.2.2.2.1
theorem dX8_way_72 : decode cX8_way 72 = .ok (.aload_n 0, 1) := dX8_way_r52.2.2.2.2.2.2.2.2.2.2.1
theorem dX8_way_73 : decode cX8_way 73 = .ok (.getfield 165, 3) := dX8_way_r52.2.2.2.2.2.2.2.2.2.2.2.1
theorem dX8_way_76 : decode cX8_way 76 = .ok (.if_icmp .ge 58, 3) := dX8_way_r52.2.2.2.2.2.2.2.2.2.2.2.2.1
theorem dX8_way_79 : decode cX8_way 79 = .ok (.aload_n 0, 1) := dX8_way_r52.2.2.2.2.2.2.2.2.2.2.2.2.2.1
theorem dX8_way_80 : decode cX8_way 80 = .ok (.getfield 68, 3) := dX8_way_r52.2.2.2.2.2.2.2.2.2.2.2.2.2.2.1
theorem dX8_way_83 : decode cX8_way 83 = .ok (.aload_n 0, 1) := dX8_way_r52.2.2.2.2.2.2.2.2.2.2.2.2.2.2.2.1
theorem dX8_way_r84 : zdcP cX8_way 84 [(.getfield 168, 3), (.aload_n 0, 1), (.getfield 162, 3), (.iadd, 1), (.laload, 1), (.l2i, 1), (.bipush 59, 2), (.if_icmp .eq 16, 3), (.aload_n 0, 1), (.aload_n 0, 1), (.getfield 162, 3), (.invokevirtual 177, 3), (.istore 4, 2), (.goto (-46), 3), (.aload_n 0, 1), (.dup, 1)] := zdcA_ok (by decide +kernel)
theorem dX8_way_84 : decode cX8_way 84 = .ok (.getfield 168, 3) := dX8_way_r84.1
theorem dX8_way_87 : decode cX8_way 87 = .ok (.aload_n 0, 1) := dX8_way_r84.2.1
theorem dX8_way_88 : decode cX8_way 88 = .ok (.getfield 162, 3) := dX8_way_r84.2.2.1
theorem dX8_way_91 : decode cX8_way 91 = .ok (.iadd, 1) := dX8_way_r84.2.2.2.1
theorem dX8_way_92 : decode cX8_way 92 = .ok (.laload, 1) := dX8_way_r84.2.2.2.2.1
theorem dX8_way_93 : decode cX8_way 93 = .ok (.l2i, 1) := dX8_way_r84.2.2.2.2.2.1
theorem dX8_way_94 : decode cX8_way 94 = .ok (.bipush 59, 2) := dX8_way_r84.2.2.2.2.2.2.1
theorem dX8_way_96 : decode cX8_way 96 = .ok (.if_icmp .eq 16, 3) := dX8_way_r84.2.2.2.2.2.2.2.1
theorem dX8_way_99 : decode cX8_way 99 = .ok (.aload_n 0, 1) := dX8_way_r84.2.2.2.2.2.2.2.2.1
theorem dX8_way_100 : decode cX8_way 100 = .ok (.aload_n 0, 1) := dX8_way_r84.2.2.2.2.2.2.2.2.2.1
theorem dX8_way_101 : decode cX8_way 101 = .ok (.getfield 162, 3) := dX8_way_r84.2.2.2.2.2.2.2.2.2.2.1
theorem dX8_way_104 : decode cX8_way 104 = .ok (.invokevirtual 177, 3) := dX8_way_r84.2.2.2.2.2.2.2.2.2.2.2.1
theorem dX8_way_107 : decode cX8_way 107 = .ok (.istore 4, 2) := dX8_way_r84.2.2.2.2.2.2.2.2.2.2.2.2.1
theorem dX8_way_109 : decode cX8_way 109 = .ok (.goto (-46), 3) := dX8_way_r84.2.2.2.2.2.2.2.2.2.2.2.2.2.1
theorem dX8_way_112 : decode cX8_way 112 = .ok (.aload_n 0, 1) := dX8_way_r84.2.2.2.2.2.2.2.2.2.2.2.2.2.2.1
theorem dX8_way_113 : decode cX8_way 113 = .ok (.dup, 1) := dX8_way_r84.2.2.2.2.2.2.2.2.2.2.2.2.2.2.2.1
theorem dX8_way_r114 : zdcP cX8_way 114 [(.getfield 162, 3), (.iconst 1, 1), (.iadd, 1), (.putfield 162, 3), (.iinc 3 1, 3), (.aload_n 0, 1), (.invokevirtual 217, 3), (.istore 4, 2), (.goto (-68), 3), (.iload 4, 2), (.ifCond .eq 5, 3), (.iload_n 3, 1), (.ireturn, 1), (.aload_n 0, 1), (.aload_n 0, 1), (.getfield 84, 3)] := zdcA_ok (by decide +kernel)
theorem dX8_way_114 : decode cX8_way 114 = .ok (.getfield 162, 3) := dX8_way_r114.1
theorem dX8_way_117 : decode cX8_way 117 = .ok (.iconst 1, 1) := dX8_way_r114.2.1
theorem dX8_way_118 : decode cX8_way 118 = .ok (.iadd, 1) := dX8_way_r114.2.2.1
theorem dX8_way_119 : decode cX8_way 119 = .ok (.putfield 162, 3) := dX8_way_r114.2.2.2.1
theorem dX8_way_122 : decode cX8_way 122 = .ok (.iinc 3 1, 3) := dX8_way_r114.2.2.2.2.1
theorem dX8_way_125 : decode cX8_way 125 = .ok (.aload_n 0, 1) := dX8_way_r114.2.2.2.2.2.1
theorem dX8_way_126 : decode cX8_way 126 = .ok (.invokevirtual 217, 3) := dX8_way_r114.2.2.2.2.2.2.1
theorem dX8_way_129 : decode cX8_way 129 = .ok (.istore 4, 2) := dX8_way_r114.2.2.2.2.2.2.2.1
theorem dX8_way_131 : decode cX8_way 131 = .ok (.goto (-68), 3) := dX8_way_r114.2.2.2.2.2.2.2.2.1
theorem dX8_way_134 : decode cX8_way 134 = .ok (.iload 4, 2) := dX8_way_r114.2.2.2.2.2.2.2.2.2.1
theorem dX8_way_136 : decode cX8_way 136 = .ok (.ifCond .eq 5, 3) := dX8_way_r114.2.2.2.2.2.2.2.2.2.2.1
theorem dX8_way_139 : decode cX8_way 139 = .ok (.iload_n 3, 1) := dX8_way_r114.2.2.2.2.2.2.2.2.2.2.2.1
theorem dX8_way_140 : decode cX8_way 140 = .ok (.ireturn, 1) := dX8_way_r114.2.2.2.2.2.2.2.2.2.2.2.2.1
theorem dX8_way_141 : decode cX8_way 141 = .ok (.aload_n 0, 1) := dX8_way_r114.2.2.2.2.2.2.2.2.2.2.2.2.2.1
theorem dX8_way_142 : decode cX8_way 142 = .ok (.aload_n 0, 1) := dX8_way_r114.2.2.2.2.2.2.2.2.2.2.2.2.2.2.1
theorem dX8_way_143 : decode cX8_way 143 = .ok (.getfield 84, 3) := dX8_way_r114.2.2.2.2.2.2.2.2.2.2.2.2.2.2.2.1
theorem dX8_way_r146 : zdcP cX8_way 146 [(.iconst 0, 1), (.iconst 1, 1), (.invokevirtual 213, 3), (.aload_n 0, 1), (.aload_n 0, 1), (.getfield 159, 3), (.putfield 34, 3), (.aload_n 0, 1), (.bipush (-6), 2), (.invokevirtual 115, 3), (.ireturn, 1)] := zdcA_ok (by decide +kernel)
theorem dX8_way_146 : decode cX8_way 146 = .ok (.iconst 0, 1) := dX8_way_r146.1
theorem dX8_way_147 : decode cX8_way 147 = .ok (.iconst 1, 1) := dX8_way_r146.2.1
theorem dX8_way_148 : decode cX8_way 148 = .ok (.invokevirtual 213, 3) := dX8_way_r146.2.2.1
theorem dX8_way_151 : decode cX8_way 151 = .ok (.aload_n 0, 1) := dX8_way_r146.2.2.2.1
theorem dX8_way_152 : decode cX8_way 152 = .ok (.aload_n 0, 1) := dX8_way_r146.2.2.2.2.1
theorem dX8_way_153 : decode cX8_way 153 = .ok (.getfield 159, 3) := dX8_way_r146.2.2.2.2.2.1
theorem dX8_way_156 : decode cX8_way 156 = .ok (.putfield 34, 3) := dX8_way_r146.2.2.2.2.2.2.1
theorem dX8_way_159 : decode cX8_way 159 = .ok (.aload_n 0, 1) := dX8_way_r146.2.2.2.2.2.2.2.1
theorem dX8_way_160 : decode cX8_way 160 = .ok (.bipush (-6), 2) := dX8_way_r146.2.2.2.2.2.2.2.2.1
theorem dX8_way_162 : decode cX8_way 162 = .ok (.invokevirtual 115, 3) := dX8_way_r146.2.2.2.2.2.2.2.2.2.1
theorem dX8_way_165 : decode cX8_way 165 = .ok (.ireturn, 1) := dX8_way_r146.2.2.2.2.2.2.2.2.2.2.1
def wq_162_134 (v1 : Int32) (v3 : Int32) (v4 : Int32) (m : zf_Me) (Q : Int32 → zf_Me → Prop) : Prop := ((v4.toInt = 0 → wp_161 79 90 0 1 m (fun m16 => (∀ m17, m17 = zf_u m16 63 13 (m16.1 63 33) → wp_125 (-6) m17 (fun x19 m20 => Q x19 m20)))) ∧ (¬ v4.toInt = 0 → Q v3 m))
theorem zq_162_134 {d : Nat} (hd : 5 ≤ d) {v1 : Int32} {Q : Int32 → zf_Me → Prop} {v3 : Int32} {v4 : Int32} {m : zf_Me} (h : wq_162_134 v1 v3 v4 m Q) : zf_W none 0 0 d zt_162 134 [some (.inr (.inr (1, 63))), none, none, some (.inl v3), some (.inl v4)] [] m (zf_I Q) := by
  obtain ⟨e, rfl⟩ : ∃ z, d = z + 1 := ⟨d - 1, by omega⟩
  unfold wq_162_134 at h
  refine zf_ld (pc' := 136) (v := .inl v4) dX8_way_134 rfl (fun _ _ _ => rfl) rfl rfl rfl ?_
  refine zf_if_eq (tgt := 141) (pc' := 139) dX8_way_136 rfl rfl (fun g => ?_) (fun g => ?_)
  · replace h := h.1 g
    refine zf_ld (pc' := 142) (v := .inr (.inr (1, 63))) dX8_way_141 rfl (fun _ _ _ => rfl) rfl rfl rfl ?_
    refine zf_ld (pc' := 143) (v := .inr (.inr (1, 63))) dX8_way_142 rfl (fun _ _ _ => rfl) rfl rfl rfl ?_
    refine zf_gfr (pc' := 146) (b := 79) dX8_way_143 rfl rfl (by decide) rfl rfl ?_
    refine zf_ic (v := 0) (pc' := 147) dX8_way_146 rfl rfl ?_
    refine zf_ic (v := 1) (pc' := 148) dX8_way_147 rfl rfl ?_
    refine zf_iv (k := 161) (pc' := 151) (r := []) dX8_way_148 rfl rfl rfl rfl (by decide) rfl rfl rfl (zr_161 (by omega) (⟨by decide, rfl⟩ : zf_arr 79 90) h) (zf_kO (fun m16 h => ?_))
    refine zf_ld (pc' := 152) (v := .inr (.inr (1, 63))) dX8_way_151 rfl (fun _ _ _ => rfl) rfl rfl rfl ?_
    refine zf_ld (pc' := 153) (v := .inr (.inr (1, 63))) dX8_way_152 rfl (fun _ _ _ => rfl) rfl rfl rfl ?_
    refine zf_gfi (pc' := 156) dX8_way_153 rfl rfl (by decide) rfl rfl ?_
    refine zf_pf (pc' := 159) dX8_way_156 rfl rfl (by decide) rfl rfl rfl (fun m17 e18 => ?_)
    replace h := h m17 e18
    refine zf_ld (pc' := 160) (v := .inr (.inr (1, 63))) dX8_way_159 rfl (fun _ _ _ => rfl) rfl rfl rfl ?_
    refine zf_bi (v := (-6)) (pc' := 162) dX8_way_160 rfl rfl ?_
    refine zf_iv (k := 125) (pc' := 165) (r := []) dX8_way_162 rfl rfl rfl rfl (by decide) rfl rfl rfl (zr_125 (by omega) h) (zf_kI (fun x19 m20 h => ?_))
    exact zf_ri dX8_way_165 rfl h
  · replace h := h.2 g
    refine zf_ld (pc' := 140) (v := .inl v3) dX8_way_139 rfl (fun _ _ _ => rfl) rfl rfl rfl ?_
    exact zf_ri dX8_way_140 rfl h
def wq_162_63 (v1 : Int32) (Q : Int32 → zf_Me → Prop) : Nat → Int32 → Int32 → zf_Me → Prop
  | 0, _, _, _ => False
  | n + 1, v3, v4, m => ((v4.toInt = 0 → wq_162_134 v1 v3 v4 m Q) ∧ (¬ v4.toInt = 0 → ((((m.1 63 30)).toInt ≥ ((m.1 63 31)).toInt → wq_162_134 v1 v3 v4 m Q) ∧ (((m.1 63 30)).toInt < ((m.1 63 31)).toInt → ((0 ≤ (Int32.toInt ((m.1 63 29) + (m.1 63 30))) ∧ (Int32.toInt ((m.1 63 29) + (m.1 63 30))) < (1280 : Int)) ∧ ((((Int64.toInt32 (m.2 74 (Int32.toInt ((m.1 63 29) + (m.1 63 30))).toNat))).toInt = 59 → (∀ m21, m21 = zf_u m 63 30 ((m.1 63 30) + 1) → wp_159 m21 (fun b23 m24 => wq_162_63 v1 Q n (v3 + 1) (zb b23) m24))) ∧ (¬ ((Int64.toInt32 (m.2 74 (Int32.toInt ((m.1 63 29) + (m.1 63 30))).toNat))).toInt = 59 → wp_153 (m.1 63 30) m (fun b25 m26 => wq_162_63 v1 Q n v3 (zb b25) m26))))))))
theorem zq_162_63 {d : Nat} (hd : 5 ≤ d) {v1 : Int32} {Q : Int32 → zf_Me → Prop} : ∀ (n : Nat) (v3 : Int32) (v4 : Int32) (m : zf_Me), wq_162_63 v1 Q n v3 v4 m → zf_W none 0 0 d zt_162 63 [some (.inr (.inr (1, 63))), none, none, some (.inl v3), some (.inl v4)] [] m (zf_I Q) := by
  obtain ⟨e, rfl⟩ : ∃ z, d = z + 1 := ⟨d - 1, by omega⟩
  intro n
  induction n with
  | zero =>
    intro v3 v4 m h
    exact h.elim
  | succ n ih =>
    intro v3 v4 m h
    unfold wq_162_63 at h
    refine zf_ld (pc' := 65) (v := .inl v4) dX8_way_63 rfl (fun _ _ _ => rfl) rfl rfl rfl ?_
    refine zf_if_eq (tgt := 134) (pc' := 68) dX8_way_65 rfl rfl (fun g => ?_) (fun g => ?_)
    · replace h := h.1 g
      exact zf_lo (zq_162_134 (by omega) h) ⟨rfl, rfl, rfl, trivial⟩
    · replace h := h.2 g
      refine zf_ld (pc' := 69) (v := .inr (.inr (1, 63))) dX8_way_68 rfl (fun _ _ _ => rfl) rfl rfl rfl ?_
      refine zf_gfi (pc' := 72) dX8_way_69 rfl rfl (by decide) rfl rfl ?_
      refine zf_ld (pc' := 73) (v := .inr (.inr (1, 63))) dX8_way_72 rfl (fun _ _ _ => rfl) rfl rfl rfl ?_
      refine zf_gfi (pc' := 76) dX8_way_73 rfl rfl (by decide) rfl rfl ?_
      refine zf_icmp_ge (tgt := 134) (pc' := 79) dX8_way_76 rfl rfl (fun g => ?_) (fun g => ?_)
      · replace h := h.1 g
        exact zf_lo (zq_162_134 (by omega) h) ⟨rfl, rfl, rfl, trivial⟩
      · replace h := h.2 g
        refine zf_ld (pc' := 80) (v := .inr (.inr (1, 63))) dX8_way_79 rfl (fun _ _ _ => rfl) rfl rfl rfl ?_
        refine zf_gfr (pc' := 83) (b := 74) dX8_way_80 rfl rfl (by decide) rfl rfl ?_
        refine zf_ld (pc' := 84) (v := .inr (.inr (1, 63))) dX8_way_83 rfl (fun _ _ _ => rfl) rfl rfl rfl ?_
        refine zf_gfi (pc' := 87) dX8_way_84 rfl rfl (by decide) rfl rfl ?_
        refine zf_ld (pc' := 88) (v := .inr (.inr (1, 63))) dX8_way_87 rfl (fun _ _ _ => rfl) rfl rfl rfl ?_
        refine zf_gfi (pc' := 91) dX8_way_88 rfl rfl (by decide) rfl rfl ?_
        refine zf_in (pc' := 92) (S' := [.inl ((m.1 63 29) + (m.1 63 30)), .inr (.inr (1, 74))]) dX8_way_91 rfl (fun _ _ _ => rfl) ?_
        refine zf_lal (pc' := 93) dX8_way_92 rfl (⟨by decide, rfl⟩ : zf_larr 74 1280).1 (⟨by decide, rfl⟩ : zf_larr 74 1280).2 h.1 rfl ?_
        replace h := h.2
        refine zf_in (pc' := 94) (S' := [.inl (Int64.toInt32 (m.2 74 (Int32.toInt ((m.1 63 29) + (m.1 63 30))).toNat))]) dX8_way_93 rfl (fun _ _ _ => rfl) ?_
        refine zf_bi (v := 59) (pc' := 96) dX8_way_94 rfl rfl ?_
        refine zf_icmp_eq (tgt := 112) (pc' := 99) dX8_way_96 rfl rfl (fun g => ?_) (fun g => ?_)
        · replace h := h.1 g
          refine zf_ld (pc' := 113) (v := .inr (.inr (1, 63))) dX8_way_112 rfl (fun _ _ _ => rfl) rfl rfl rfl ?_
          refine zf_in (pc' := 114) (S' := [.inr (.inr (1, 63)), .inr (.inr (1, 63))]) dX8_way_113 rfl (fun _ _ _ => rfl) ?_
          refine zf_gfi (pc' := 117) dX8_way_114 rfl rfl (by decide) rfl rfl ?_
          refine zf_ic (v := 1) (pc' := 118) dX8_way_117 rfl rfl ?_
          refine zf_in (pc' := 119) (S' := [.inl ((m.1 63 30) + 1), .inr (.inr (1, 63))]) dX8_way_118 rfl (fun _ _ _ => rfl) ?_
          refine zf_pf (pc' := 122) dX8_way_119 rfl rfl (by decide) rfl rfl rfl (fun m21 e22 => ?_)
          replace h := h m21 e22
          refine zf_ii (y := (v3 + 1)) (L2 := [some (.inr (.inr (1, 63))), none, none, some (.inl (v3 + 1)), some (.inl v4)]) (pc' := 125) dX8_way_122 rfl rfl rfl rfl rfl ?_
          refine zf_ld (pc' := 126) (v := .inr (.inr (1, 63))) dX8_way_125 rfl (fun _ _ _ => rfl) rfl rfl rfl ?_
          refine zf_iv (k := 159) (pc' := 129) (r := []) dX8_way_126 rfl rfl rfl rfl (by decide) rfl rfl rfl (zr_159 (by omega) h) (zf_kB (fun b23 m24 h => ?_))
          refine zf_st (pc' := 131) (L2 := [some (.inr (.inr (1, 63))), none, none, some (.inl (v3 + 1)), some (.inl (zb b23))]) dX8_way_129 rfl (fun _ _ _ => rfl) rfl rfl rfl rfl rfl rfl ?_
          refine zf_goto (tgt := 63) dX8_way_131 rfl ?_
          exact zf_lo (ih _ _ _ h) ⟨rfl, rfl, rfl, trivial⟩
        · replace h := h.2 g
          refine zf_ld (pc' := 100) (v := .inr (.inr (1, 63))) dX8_way_99 rfl (fun _ _ _ => rfl) rfl rfl rfl ?_
          refine zf_ld (pc' := 101) (v := .inr (.inr (1, 63))) dX8_way_100 rfl (fun _ _ _ => rfl) rfl rfl rfl ?_
          refine zf_gfi (pc' := 104) dX8_way_101 rfl rfl (by decide) rfl rfl ?_
          refine zf_iv (k := 153) (pc' := 107) (r := []) dX8_way_104 rfl rfl rfl rfl (by decide) rfl rfl rfl (zr_153 (by omega) h) (zf_kB (fun b25 m26 h => ?_))
          refine zf_st (pc' := 109) (L2 := [some (.inr (.inr (1, 63))), none, none, some (.inl v3), some (.inl (zb b25))]) dX8_way_107 rfl (fun _ _ _ => rfl) rfl rfl rfl rfl rfl rfl ?_
          refine zf_goto (tgt := 63) dX8_way_109 rfl ?_
          exact zf_lo (ih _ _ _ h) ⟨rfl, rfl, rfl, trivial⟩
def wp_162 (v1 : Int32) (m : zf_Me) (Q : Int32 → zf_Me → Prop) : Prop := wp_137 v1 m (fun x1 m2 => ((x1.toInt = 0 → wp_161 79 90 0 0 m2 (fun m4 => (∀ m5, m5 = zf_u m4 63 29 (160 * v1) → (∀ m7, m7 = zf_u m5 63 30 0 → ((0 ≤ (Int32.toInt v1) ∧ (Int32.toInt v1) < (8 : Int)) ∧ (∀ m9, m9 = zf_u m7 63 31 (m7.1 72 (Int32.toInt v1).toNat) → (∀ m11, m11 = zf_u m9 63 13 (-1) → wp_159 m11 (fun b13 m14 => (∃ n63, wq_162_63 v1 Q n63 1 (zb b13) m14))))))))) ∧ (¬ x1.toInt = 0 → wp_125 x1 m2 (fun x27 m28 => Q x27 m28))))
theorem zr_162 {d : Nat} (hd : 5 ≤ d) {v1 : Int32} {Q : Int32 → zf_Me → Prop} {m : zf_Me} (h : wp_162 v1 m Q) : zf_M d 162 [.inr (.inr (1, 63)), .inl v1] m (zf_I Q) := by
  obtain ⟨e, rfl⟩ : ∃ z, d = z + 1 := ⟨d - 1, by omega⟩
  unfold wp_162 at h
  refine zf_M_of (Nat.le_of_ble_eq_true rfl) zm_162 (L := [some (.inr (.inr (1, 63))), some (.inl v1), none, none, none]) rfl ?_
  refine zf_ld (pc' := 1) (v := .inr (.inr (1, 63))) dX8_way_0 rfl (fun _ _ _ => rfl) rfl rfl rfl ?_
  refine zf_ld (pc' := 2) (v := .inl v1) dX8_way_1 rfl (fun _ _ _ => rfl) rfl rfl rfl ?_
  refine zf_iv (k := 137) (pc' := 5) (r := []) dX8_way_2 rfl rfl rfl rfl (by decide) rfl rfl rfl (zr_137 (by omega) h) (zf_kI (fun x1 m2 h => ?_))
  refine zf_st (pc' := 6) (L2 := [some (.inr (.inr (1, 63))), some (.inl v1), some (.inl x1), none, none]) dX8_way_5 rfl (fun _ _ _ => rfl) rfl rfl rfl rfl rfl rfl ?_
  refine zf_ld (pc' := 7) (v := .inl x1) dX8_way_6 rfl (fun _ _ _ => rfl) rfl rfl rfl ?_
  refine zf_if_eq (tgt := 16) (pc' := 10) dX8_way_7 rfl rfl (fun g => ?_) (fun g => ?_)
  · replace h := h.1 g
    refine zf_ld (pc' := 17) (v := .inr (.inr (1, 63))) dX8_way_16 rfl (fun _ _ _ => rfl) rfl rfl rfl ?_
    refine zf_ld (pc' := 18) (v := .inr (.inr (1, 63))) dX8_way_17 rfl (fun _ _ _ => rfl) rfl rfl rfl ?_
    refine zf_gfr (pc' := 21) (b := 79) dX8_way_18 rfl rfl (by decide) rfl rfl ?_
    refine zf_ic (v := 0) (pc' := 22) dX8_way_21 rfl rfl ?_
    refine zf_ic (v := 0) (pc' := 23) dX8_way_22 rfl rfl ?_
    refine zf_iv (k := 161) (pc' := 26) (r := []) dX8_way_23 rfl rfl rfl rfl (by decide) rfl rfl rfl (zr_161 (by omega) (⟨by decide, rfl⟩ : zf_arr 79 90) h) (zf_kO (fun m4 h => ?_))
    refine zf_ld (pc' := 27) (v := .inr (.inr (1, 63))) dX8_way_26 rfl (fun _ _ _ => rfl) rfl rfl rfl ?_
    refine zf_si (v := 160) (pc' := 30) dX8_way_27 rfl rfl ?_
    refine zf_ld (pc' := 31) (v := .inl v1) dX8_way_30 rfl (fun _ _ _ => rfl) rfl rfl rfl ?_
    refine zf_in (pc' := 32) (S' := [.inl (160 * v1), .inr (.inr (1, 63))]) dX8_way_31 rfl (fun _ _ _ => rfl) ?_
    refine zf_pf (pc' := 35) dX8_way_32 rfl rfl (by decide) rfl rfl rfl (fun m5 e6 => ?_)
    replace h := h m5 e6
    refine zf_ld (pc' := 36) (v := .inr (.inr (1, 63))) dX8_way_35 rfl (fun _ _ _ => rfl) rfl rfl rfl ?_
    refine zf_ic (v := 0) (pc' := 37) dX8_way_36 rfl rfl ?_
    refine zf_pf (pc' := 40) dX8_way_37 rfl rfl (by decide) rfl rfl rfl (fun m7 e8 => ?_)
    replace h := h m7 e8
    refine zf_ld (pc' := 41) (v := .inr (.inr (1, 63))) dX8_way_40 rfl (fun _ _ _ => rfl) rfl rfl rfl ?_
    refine zf_ld (pc' := 42) (v := .inr (.inr (1, 63))) dX8_way_41 rfl (fun _ _ _ => rfl) rfl rfl rfl ?_
    refine zf_gfr (pc' := 45) (b := 72) dX8_way_42 rfl rfl (by decide) rfl rfl ?_
    refine zf_ld (pc' := 46) (v := .inl v1) dX8_way_45 rfl (fun _ _ _ => rfl) rfl rfl rfl ?_
    refine zf_ial (pc' := 47) dX8_way_46 rfl (⟨by decide, rfl⟩ : zf_arr 72 8).1 (⟨by decide, rfl⟩ : zf_arr 72 8).2 h.1 rfl ?_
    replace h := h.2
    refine zf_pf (pc' := 50) dX8_way_47 rfl rfl (by decide) rfl rfl rfl (fun m9 e10 => ?_)
    replace h := h m9 e10
    refine zf_ld (pc' := 51) (v := .inr (.inr (1, 63))) dX8_way_50 rfl (fun _ _ _ => rfl) rfl rfl rfl ?_
    refine zf_ic (v := (-1)) (pc' := 52) dX8_way_51 rfl rfl ?_
    refine zf_pf (pc' := 55) dX8_way_52 rfl rfl (by decide) rfl rfl rfl (fun m11 e12 => ?_)
    replace h := h m11 e12
    refine zf_ic (v := 1) (pc' := 56) dX8_way_55 rfl rfl ?_
    refine zf_st (pc' := 57) (L2 := [some (.inr (.inr (1, 63))), some (.inl v1), some (.inl x1), some (.inl 1), none]) dX8_way_56 rfl (fun _ _ _ => rfl) rfl rfl rfl rfl rfl rfl ?_
    refine zf_ld (pc' := 58) (v := .inr (.inr (1, 63))) dX8_way_57 rfl (fun _ _ _ => rfl) rfl rfl rfl ?_
    refine zf_iv (k := 159) (pc' := 61) (r := []) dX8_way_58 rfl rfl rfl rfl (by decide) rfl rfl rfl (zr_159 (by omega) h) (zf_kB (fun b13 m14 h => ?_))
    refine zf_st (pc' := 63) (L2 := [some (.inr (.inr (1, 63))), some (.inl v1), some (.inl x1), some (.inl 1), some (.inl (zb b13))]) dX8_way_61 rfl (fun _ _ _ => rfl) rfl rfl rfl rfl rfl rfl ?_
    obtain ⟨n63, h⟩ := h
    exact zf_lo (zq_162_63 (by omega) n63 _ _ _ h) ⟨rfl, rfl, rfl, trivial⟩
  · replace h := h.2 g
    refine zf_ld (pc' := 11) (v := .inr (.inr (1, 63))) dX8_way_10 rfl (fun _ _ _ => rfl) rfl rfl rfl ?_
    refine zf_ld (pc' := 12) (v := .inl x1) dX8_way_11 rfl (fun _ _ _ => rfl) rfl rfl rfl ?_
    refine zf_iv (k := 125) (pc' := 15) (r := []) dX8_way_12 rfl rfl rfl rfl (by decide) rfl rfl rfl (zr_125 (by omega) h) (zf_kI (fun x27 m28 h => ?_))
    exact zf_ri dX8_way_15 rfl h
def zt_163 : zx_MT := (8, yX8_fault, cX8_fault, 1, (some FieldType.int), 0, 0)
theorem zm_163 : zx_m 163 = zt_163 := rfl
theorem dX8_fault_r0 : zdcP cX8_fault 0 [(.aload_n 0, 1), (.getfield 34, 3), (.ireturn, 1)] := zdcA_ok (by decide +kernel)
theorem dX8_fault_0 : decode cX8_fault 0 = .ok (.aload_n 0, 1) := dX8_fault_r0.1
theorem dX8_fault_1 : decode cX8_fault 1 = .ok (.getfield 34, 3) := dX8_fault_r0.2.1
theorem dX8_fault_4 : decode cX8_fault 4 = .ok (.ireturn, 1) := dX8_fault_r0.2.2.1
def wp_163 (m : zf_Me) (Q : Int32 → zf_Me → Prop) : Prop := Q (m.1 63 13) m
theorem zr_163 {d : Nat} (hd : 0 ≤ d) {Q : Int32 → zf_Me → Prop} {m : zf_Me} (h : wp_163 m Q) : zf_M d 163 [.inr (.inr (1, 63))] m (zf_I Q) := by
  unfold wp_163 at h
  refine zf_M_of (Nat.le_of_ble_eq_true rfl) zm_163 (L := [some (.inr (.inr (1, 63)))]) rfl ?_
  refine zf_ld (pc' := 1) (v := .inr (.inr (1, 63))) dX8_fault_0 rfl (fun _ _ _ => rfl) rfl rfl rfl ?_
  refine zf_gfi (pc' := 4) dX8_fault_1 rfl rfl (by decide) rfl rfl ?_
  exact zf_ri dX8_fault_4 rfl h
def zt_170 : zx_MT := (8, yX8_greatest, cX8_greatest, 3, (some FieldType.int), 0, 0)
theorem zm_170 : zx_m 170 = zt_170 := rfl
theorem dX8_greatest_r0 : zdcP cX8_greatest 0 [(.iconst 0, 1), (.istore_n 1, 1), (.iconst 0, 1), (.istore_n 2, 1), (.iload_n 2, 1), (.aload_n 0, 1), (.getfield 105, 3), (.if_icmp .ge 30, 3), (.aload_n 0, 1), (.getfield 53, 3), (.iload_n 2, 1), (.iaload, 1), (.iload_n 1, 1), (.if_icmp .le 12, 3), (.aload_n 0, 1), (.getfield 53, 3)] := zdcA_ok (by decide +kernel)
theorem dX8_greatest_0 : decode cX8_greatest 0 = .ok (.iconst 0, 1) := dX8_greatest_r0.1
theorem dX8_greatest_1 : decode cX8_greatest 1 = .ok (.istore_n 1, 1) := dX8_greatest_r0.2.1
theorem dX8_greatest_2 : decode cX8_greatest 2 = .ok (.iconst 0, 1) := dX8_greatest_r0.2.2.1
theorem dX8_greatest_3 : decode cX8_greatest 3 = .ok (.istore_n 2, 1) := dX8_greatest_r0.2.2.2.1
theorem dX8_greatest_4 : decode cX8_greatest 4 = .ok (.iload_n 2, 1) := dX8_greatest_r0.2.2.2.2.1
theorem dX8_greatest_5 : decode cX8_greatest 5 = .ok (.aload_n 0, 1) := dX8_greatest_r0.2.2.2.2.2.1
theorem dX8_greatest_6 : decode cX8_greatest 6 = .ok (.getfield 105, 3) := dX8_greatest_r0.2.2.2.2.2.2.1
theorem dX8_greatest_9 : decode cX8_greatest 9 = .ok (.if_icmp .ge 30, 3) := dX8_greatest_r0.2.2.2.2.2.2.2.1
theorem dX8_greatest_12 : decode cX8_greatest 12 = .ok (.aload_n 0, 1) := dX8_greatest_r0.2.2.2.2.2.2.2.2.1
theorem dX8_greatest_13 : decode cX8_greatest 13 = .ok (.getfield 53, 3) := dX8_greatest_r0.2.2.2.2.2.2.2.2.2.1
theorem dX8_greatest_16 : decode cX8_greatest 16 = .ok (.iload_n 2, 1) := dX8_greatest_r0.2.2.2.2.2.2.2.2.2.2.1
theorem dX8_greatest_17 : decode cX8_greatest 17 = .ok (.iaload, 1) := dX8_greatest_r0.2.2.2.2.2.2.2.2.2.2.2.1
theorem dX8_greatest_18 : decode cX8_greatest 18 = .ok (.iload_n 1, 1) := dX8_greatest_r0.2.2.2.2.2.2.2.2.2.2.2.2.1
theorem dX8_greatest_19 : decode cX8_greatest 19 = .ok (.if_icmp .le 12, 3) := dX8_greatest_r0.2.2.2.2.2.2.2.2.2.2.2.2.2.1
theorem dX8_greatest_22 : decode cX8_greatest 22 = .ok (.aload_n 0, 1) := dX8_greatest_r0.2.2.2.2.2.2.2.2.2.2.2.2.2.2.1
theorem dX8_greatest_23 : decode cX8_greatest 23 = .ok (.getfield 53, 3) := dX8_greatest_r0.2.2.2.2.2.2.2.2.2.2.2.2.2.2.2.1
theorem dX8_greatest_r26 : zdcP cX8_greatest 26 [(.iload_n 2, 1), (.iaload, 1), (.goto 4, 3), (.iload_n 1, 1), (.istore_n 1, 1), (.iinc 2 1, 3), (.goto (-32), 3), (.iload_n 1, 1), (.ireturn, 1)] := zdcA_ok (by decide +kernel)
theorem dX8_greatest_26 : decode cX8_greatest 26 = .ok (.iload_n 2, 1) := dX8_greatest_r26.1
theorem dX8_greatest_27 : decode cX8_greatest 27 = .ok (.iaload, 1) := dX8_greatest_r26.2.1
theorem dX8_greatest_28 : decode cX8_greatest 28 = .ok (.goto 4, 3) := dX8_greatest_r26.2.2.1
theorem dX8_greatest_31 : decode cX8_greatest 31 = .ok (.iload_n 1, 1) := dX8_greatest_r26.2.2.2.1
theorem dX8_greatest_32 : decode cX8_greatest 32 = .ok (.istore_n 1, 1) := dX8_greatest_r26.2.2.2.2.1
theorem dX8_greatest_33 : decode cX8_greatest 33 = .ok (.iinc 2 1, 3) := dX8_greatest_r26.2.2.2.2.2.1
theorem dX8_greatest_36 : decode cX8_greatest 36 = .ok (.goto (-32), 3) := dX8_greatest_r26.2.2.2.2.2.2.1
theorem dX8_greatest_39 : decode cX8_greatest 39 = .ok (.iload_n 1, 1) := dX8_greatest_r26.2.2.2.2.2.2.2.1
theorem dX8_greatest_40 : decode cX8_greatest 40 = .ok (.ireturn, 1) := dX8_greatest_r26.2.2.2.2.2.2.2.2.1
def wq_170_4 (Q : Int32 → zf_Me → Prop) : Nat → Int32 → Int32 → zf_Me → Prop
  | 0, _, _, _ => False
  | n + 1, v1, v2, m => ((v2.toInt ≥ ((m.1 63 1)).toInt → Q v1 m) ∧ (v2.toInt < ((m.1 63 1)).toInt → ((0 ≤ (Int32.toInt v2) ∧ (Int32.toInt v2) < (6 : Int)) ∧ ((((m.1 69 (Int32.toInt v2).toNat)).toInt ≤ v1.toInt → wq_170_4 Q n v1 (v2 + 1) m) ∧ (((m.1 69 (Int32.toInt v2).toNat)).toInt > v1.toInt → ((0 ≤ (Int32.toInt v2) ∧ (Int32.toInt v2) < (6 : Int)) ∧ wq_170_4 Q n (m.1 69 (Int32.toInt v2).toNat) (v2 + 1) m))))))
theorem zq_170_4 {d : Nat} (hd : 0 ≤ d) {Q : Int32 → zf_Me → Prop} : ∀ (n : Nat) (v1 : Int32) (v2 : Int32) (m : zf_Me), wq_170_4 Q n v1 v2 m → zf_W none 0 0 d zt_170 4 [some (.inr (.inr (1, 63))), some (.inl v1), some (.inl v2)] [] m (zf_I Q) := by
  intro n
  induction n with
  | zero =>
    intro v1 v2 m h
    exact h.elim
  | succ n ih =>
    intro v1 v2 m h
    unfold wq_170_4 at h
    refine zf_ld (pc' := 5) (v := .inl v2) dX8_greatest_4 rfl (fun _ _ _ => rfl) rfl rfl rfl ?_
    refine zf_ld (pc' := 6) (v := .inr (.inr (1, 63))) dX8_greatest_5 rfl (fun _ _ _ => rfl) rfl rfl rfl ?_
    refine zf_gfi (pc' := 9) dX8_greatest_6 rfl rfl (by decide) rfl rfl ?_
    refine zf_icmp_ge (tgt := 39) (pc' := 12) dX8_greatest_9 rfl rfl (fun g => ?_) (fun g => ?_)
    · replace h := h.1 g
      refine zf_ld (pc' := 40) (v := .inl v1) dX8_greatest_39 rfl (fun _ _ _ => rfl) rfl rfl rfl ?_
      exact zf_ri dX8_greatest_40 rfl h
    · replace h := h.2 g
      refine zf_ld (pc' := 13) (v := .inr (.inr (1, 63))) dX8_greatest_12 rfl (fun _ _ _ => rfl) rfl rfl rfl ?_
      refine zf_gfr (pc' := 16) (b := 69) dX8_greatest_13 rfl rfl (by decide) rfl rfl ?_
      refine zf_ld (pc' := 17) (v := .inl v2) dX8_greatest_16 rfl (fun _ _ _ => rfl) rfl rfl rfl ?_
      refine zf_ial (pc' := 18) dX8_greatest_17 rfl (⟨by decide, rfl⟩ : zf_arr 69 6).1 (⟨by decide, rfl⟩ : zf_arr 69 6).2 h.1 rfl ?_
      replace h := h.2
      refine zf_ld (pc' := 19) (v := .inl v1) dX8_greatest_18 rfl (fun _ _ _ => rfl) rfl rfl rfl ?_
      refine zf_icmp_le (tgt := 31) (pc' := 22) dX8_greatest_19 rfl rfl (fun g => ?_) (fun g => ?_)
      · replace h := h.1 g
        refine zf_ld (pc' := 32) (v := .inl v1) dX8_greatest_31 rfl (fun _ _ _ => rfl) rfl rfl rfl ?_
        refine zf_st (pc' := 33) (L2 := [some (.inr (.inr (1, 63))), some (.inl v1), some (.inl v2)]) dX8_greatest_32 rfl (fun _ _ _ => rfl) rfl rfl rfl rfl rfl rfl ?_
        refine zf_ii (y := (v2 + 1)) (L2 := [some (.inr (.inr (1, 63))), some (.inl v1), some (.inl (v2 + 1))]) (pc' := 36) dX8_greatest_33 rfl rfl rfl rfl rfl ?_
        refine zf_goto (tgt := 4) dX8_greatest_36 rfl ?_
        exact zf_lo (ih _ _ _ h) ⟨rfl, rfl, rfl, trivial⟩
      · replace h := h.2 g
        refine zf_ld (pc' := 23) (v := .inr (.inr (1, 63))) dX8_greatest_22 rfl (fun _ _ _ => rfl) rfl rfl rfl ?_
        refine zf_gfr (pc' := 26) (b := 69) dX8_greatest_23 rfl rfl (by decide) rfl rfl ?_
        refine zf_ld (pc' := 27) (v := .inl v2) dX8_greatest_26 rfl (fun _ _ _ => rfl) rfl rfl rfl ?_
        refine zf_ial (pc' := 28) dX8_greatest_27 rfl (⟨by decide, rfl⟩ : zf_arr 69 6).1 (⟨by decide, rfl⟩ : zf_arr 69 6).2 h.1 rfl ?_
        replace h := h.2
        refine zf_goto (tgt := 32) dX8_greatest_28 rfl ?_
        refine zf_st (pc' := 33) (L2 := [some (.inr (.inr (1, 63))), some (.inl (m.1 69 (Int32.toInt v2).toNat)), some (.inl v2)]) dX8_greatest_32 rfl (fun _ _ _ => rfl) rfl rfl rfl rfl rfl rfl ?_
        refine zf_ii (y := (v2 + 1)) (L2 := [some (.inr (.inr (1, 63))), some (.inl (m.1 69 (Int32.toInt v2).toNat)), some (.inl (v2 + 1))]) (pc' := 36) dX8_greatest_33 rfl rfl rfl rfl rfl ?_
        refine zf_goto (tgt := 4) dX8_greatest_36 rfl ?_
        exact zf_lo (ih _ _ _ h) ⟨rfl, rfl, rfl, trivial⟩
def wp_170 (m : zf_Me) (Q : Int32 → zf_Me → Prop) : Prop := (∃ n4, wq_170_4 Q n4 0 0 m)
theorem zr_170 {d : Nat} (hd : 0 ≤ d) {Q : Int32 → zf_Me → Prop} {m : zf_Me} (h : wp_170 m Q) : zf_M d 170 [.inr (.inr (1, 63))] m (zf_I Q) := by
  unfold wp_170 at h
  refine zf_M_of (Nat.le_of_ble_eq_true rfl) zm_170 (L := [some (.inr (.inr (1, 63))), none, none]) rfl ?_
  refine zf_ic (v := 0) (pc' := 1) dX8_greatest_0 rfl rfl ?_
  refine zf_st (pc' := 2) (L2 := [some (.inr (.inr (1, 63))), some (.inl 0), none]) dX8_greatest_1 rfl (fun _ _ _ => rfl) rfl rfl rfl rfl rfl rfl ?_
  refine zf_ic (v := 0) (pc' := 3) dX8_greatest_2 rfl rfl ?_
  refine zf_st (pc' := 4) (L2 := [some (.inr (.inr (1, 63))), some (.inl 0), some (.inl 0)]) dX8_greatest_3 rfl (fun _ _ _ => rfl) rfl rfl rfl rfl rfl rfl ?_
  obtain ⟨n4, h⟩ := h
  exact zf_lo (zq_170_4 (by omega) n4 _ _ _ h) ⟨rfl, rfl, rfl, trivial⟩
def zt_171 : zx_MT := (8, yX8_load, cX8_load, 3, (some FieldType.int), 2, 0)
theorem zm_171 : zx_m 171 = zt_171 := rfl
theorem dX8_load_r0 : zdcP cX8_load 0 [(.aload_n 0, 1), (.iload_n 1, 1), (.invokevirtual 119, 3), (.ifCond .ne 9, 3), (.aload_n 0, 1), (.iconst (-1), 1), (.invokevirtual 115, 3), (.ireturn, 1), (.aload_n 0, 1), (.iload_n 2, 1), (.invokevirtual 139, 3), (.ifCond .eq 17, 3), (.aload_n 0, 1), (.iload_n 1, 1), (.aload_n 0, 1), (.getfield 41, 3)] := zdcA_ok (by decide +kernel)
theorem dX8_load_0 : decode cX8_load 0 = .ok (.aload_n 0, 1) := dX8_load_r0.1
theorem dX8_load_1 : decode cX8_load 1 = .ok (.iload_n 1, 1) := dX8_load_r0.2.1
theorem dX8_load_2 : decode cX8_load 2 = .ok (.invokevirtual 119, 3) := dX8_load_r0.2.2.1
theorem dX8_load_5 : decode cX8_load 5 = .ok (.ifCond .ne 9, 3) := dX8_load_r0.2.2.2.1
theorem dX8_load_8 : decode cX8_load 8 = .ok (.aload_n 0, 1) := dX8_load_r0.2.2.2.2.1
theorem dX8_load_9 : decode cX8_load 9 = .ok (.iconst (-1), 1) := dX8_load_r0.2.2.2.2.2.1
theorem dX8_load_10 : decode cX8_load 10 = .ok (.invokevirtual 115, 3) := dX8_load_r0.2.2.2.2.2.2.1
theorem dX8_load_13 : decode cX8_load 13 = .ok (.ireturn, 1) := dX8_load_r0.2.2.2.2.2.2.2.1
theorem dX8_load_14 : decode cX8_load 14 = .ok (.aload_n 0, 1) := dX8_load_r0.2.2.2.2.2.2.2.2.1
theorem dX8_load_15 : decode cX8_load 15 = .ok (.iload_n 2, 1) := dX8_load_r0.2.2.2.2.2.2.2.2.2.1
theorem dX8_load_16 : decode cX8_load 16 = .ok (.invokevirtual 139, 3) := dX8_load_r0.2.2.2.2.2.2.2.2.2.2.1
theorem dX8_load_19 : decode cX8_load 19 = .ok (.ifCond .eq 17, 3) := dX8_load_r0.2.2.2.2.2.2.2.2.2.2.2.1
theorem dX8_load_22 : decode cX8_load 22 = .ok (.aload_n 0, 1) := dX8_load_r0.2.2.2.2.2.2.2.2.2.2.2.2.1
theorem dX8_load_23 : decode cX8_load 23 = .ok (.iload_n 1, 1) := dX8_load_r0.2.2.2.2.2.2.2.2.2.2.2.2.2.1
theorem dX8_load_24 : decode cX8_load 24 = .ok (.aload_n 0, 1) := dX8_load_r0.2.2.2.2.2.2.2.2.2.2.2.2.2.2.1
theorem dX8_load_25 : decode cX8_load 25 = .ok (.getfield 41, 3) := dX8_load_r0.2.2.2.2.2.2.2.2.2.2.2.2.2.2.2.1
theorem dX8_load_r28 : zdcP cX8_load 28 [(.iload_n 2, 1), (.iaload, 1), (.invokevirtual 126, 3), (.goto 9, 3), (.aload_n 0, 1), (.bipush (-5), 2), (.invokevirtual 115, 3), (.ireturn, 1)] := zdcA_ok (by decide +kernel)
theorem dX8_load_28 : decode cX8_load 28 = .ok (.iload_n 2, 1) := dX8_load_r28.1
theorem dX8_load_29 : decode cX8_load 29 = .ok (.iaload, 1) := dX8_load_r28.2.1
theorem dX8_load_30 : decode cX8_load 30 = .ok (.invokevirtual 126, 3) := dX8_load_r28.2.2.1
theorem dX8_load_33 : decode cX8_load 33 = .ok (.goto 9, 3) := dX8_load_r28.2.2.2.1
theorem dX8_load_36 : decode cX8_load 36 = .ok (.aload_n 0, 1) := dX8_load_r28.2.2.2.2.1
theorem dX8_load_37 : decode cX8_load 37 = .ok (.bipush (-5), 2) := dX8_load_r28.2.2.2.2.2.1
theorem dX8_load_39 : decode cX8_load 39 = .ok (.invokevirtual 115, 3) := dX8_load_r28.2.2.2.2.2.2.1
theorem dX8_load_42 : decode cX8_load 42 = .ok (.ireturn, 1) := dX8_load_r28.2.2.2.2.2.2.2.1
def wp_171 (v1 : Int32) (v2 : Int32) (m : zf_Me) (Q : Int32 → zf_Me → Prop) : Prop := wp_128 v1 m (fun b1 m2 => ((b1 = true → wp_129 v2 m2 (fun b3 m4 => ((b3 = false → wp_125 (-5) m4 (fun x5 m6 => Q x5 m6)) ∧ (b3 = true → ((0 ≤ (Int32.toInt v2) ∧ (Int32.toInt v2) < (24 : Int)) ∧ wp_165 v1 (m4.1 65 (Int32.toInt v2).toNat) m4 (fun x7 m8 => Q x7 m8)))))) ∧ (b1 = false → wp_125 (-1) m2 (fun x9 m10 => Q x9 m10))))
theorem zr_171 {d : Nat} (hd : 1 ≤ d) {v1 : Int32} {v2 : Int32} {Q : Int32 → zf_Me → Prop} {m : zf_Me} (h : wp_171 v1 v2 m Q) : zf_M d 171 [.inr (.inr (1, 63)), .inl v1, .inl v2] m (zf_I Q) := by
  obtain ⟨e, rfl⟩ : ∃ z, d = z + 1 := ⟨d - 1, by omega⟩
  unfold wp_171 at h
  refine zf_M_of (Nat.le_of_ble_eq_true rfl) zm_171 (L := [some (.inr (.inr (1, 63))), some (.inl v1), some (.inl v2)]) rfl ?_
  refine zf_ld (pc' := 1) (v := .inr (.inr (1, 63))) dX8_load_0 rfl (fun _ _ _ => rfl) rfl rfl rfl ?_
  refine zf_ld (pc' := 2) (v := .inl v1) dX8_load_1 rfl (fun _ _ _ => rfl) rfl rfl rfl ?_
  refine zf_iv (k := 128) (pc' := 5) (r := []) dX8_load_2 rfl rfl rfl rfl (by decide) rfl rfl rfl (zr_128 (by omega) h) (zf_kB (fun b1 m2 h => ?_))
  refine zf_ib_ne (tgt := 14) (pc' := 8) dX8_load_5 rfl rfl (fun g => ?_) (fun g => ?_)
  · replace h := h.1 g
    refine zf_ld (pc' := 15) (v := .inr (.inr (1, 63))) dX8_load_14 rfl (fun _ _ _ => rfl) rfl rfl rfl ?_
    refine zf_ld (pc' := 16) (v := .inl v2) dX8_load_15 rfl (fun _ _ _ => rfl) rfl rfl rfl ?_
    refine zf_iv (k := 129) (pc' := 19) (r := []) dX8_load_16 rfl rfl rfl rfl (by decide) rfl rfl rfl (zr_129 (by omega) h) (zf_kB (fun b3 m4 h => ?_))
    refine zf_ib_eq (tgt := 36) (pc' := 22) dX8_load_19 rfl rfl (fun g => ?_) (fun g => ?_)
    · replace h := h.1 g
      refine zf_ld (pc' := 37) (v := .inr (.inr (1, 63))) dX8_load_36 rfl (fun _ _ _ => rfl) rfl rfl rfl ?_
      refine zf_bi (v := (-5)) (pc' := 39) dX8_load_37 rfl rfl ?_
      refine zf_iv (k := 125) (pc' := 42) (r := []) dX8_load_39 rfl rfl rfl rfl (by decide) rfl rfl rfl (zr_125 (by omega) h) (zf_kI (fun x5 m6 h => ?_))
      exact zf_ri dX8_load_42 rfl h
    · replace h := h.2 g
      refine zf_ld (pc' := 23) (v := .inr (.inr (1, 63))) dX8_load_22 rfl (fun _ _ _ => rfl) rfl rfl rfl ?_
      refine zf_ld (pc' := 24) (v := .inl v1) dX8_load_23 rfl (fun _ _ _ => rfl) rfl rfl rfl ?_
      refine zf_ld (pc' := 25) (v := .inr (.inr (1, 63))) dX8_load_24 rfl (fun _ _ _ => rfl) rfl rfl rfl ?_
      refine zf_gfr (pc' := 28) (b := 65) dX8_load_25 rfl rfl (by decide) rfl rfl ?_
      refine zf_ld (pc' := 29) (v := .inl v2) dX8_load_28 rfl (fun _ _ _ => rfl) rfl rfl rfl ?_
      refine zf_ial (pc' := 30) dX8_load_29 rfl (⟨by decide, rfl⟩ : zf_arr 65 24).1 (⟨by decide, rfl⟩ : zf_arr 65 24).2 h.1 rfl ?_
      replace h := h.2
      refine zf_iv (k := 165) (pc' := 33) (r := []) dX8_load_30 rfl rfl rfl rfl (by decide) rfl rfl rfl (zr_165 (by omega) h) (zf_kI (fun x7 m8 h => ?_))
      refine zf_goto (tgt := 42) dX8_load_33 rfl ?_
      exact zf_ri dX8_load_42 rfl h
  · replace h := h.2 g
    refine zf_ld (pc' := 9) (v := .inr (.inr (1, 63))) dX8_load_8 rfl (fun _ _ _ => rfl) rfl rfl rfl ?_
    refine zf_ic (v := (-1)) (pc' := 10) dX8_load_9 rfl rfl ?_
    refine zf_iv (k := 125) (pc' := 13) (r := []) dX8_load_10 rfl rfl rfl rfl (by decide) rfl rfl rfl (zr_125 (by omega) h) (zf_kI (fun x9 m10 h => ?_))
    exact zf_ri dX8_load_13 rfl h
def zt_172 : zx_MT := (8, yX8_may, cX8_may, 2, (some FieldType.int), 1, 0)
theorem zm_172 : zx_m 172 = zt_172 := rfl
theorem dX8_may_r0 : zdcP cX8_may 0 [(.iload_n 1, 1), (.ifCond .lt 25, 3), (.iload_n 1, 1), (.bipush 9, 2), (.if_icmp .gt 19, 3), (.aload_n 0, 1), (.iload_n 1, 1), (.invokevirtual 180, 3), (.ifCond .eq 7, 3), (.iconst 1, 1), (.goto 13, 3), (.iconst 0, 1), (.goto 9, 3), (.aload_n 0, 1), (.bipush (-6), 2), (.invokevirtual 115, 3)] := zdcA_ok (by decide +kernel)
theorem dX8_may_0 : decode cX8_may 0 = .ok (.iload_n 1, 1) := dX8_may_r0.1
theorem dX8_may_1 : decode cX8_may 1 = .ok (.ifCond .lt 25, 3) := dX8_may_r0.2.1
theorem dX8_may_4 : decode cX8_may 4 = .ok (.iload_n 1, 1) := dX8_may_r0.2.2.1
theorem dX8_may_5 : decode cX8_may 5 = .ok (.bipush 9, 2) := dX8_may_r0.2.2.2.1
theorem dX8_may_7 : decode cX8_may 7 = .ok (.if_icmp .gt 19, 3) := dX8_may_r0.2.2.2.2.1
theorem dX8_may_10 : decode cX8_may 10 = .ok (.aload_n 0, 1) := dX8_may_r0.2.2.2.2.2.1
theorem dX8_may_11 : decode cX8_may 11 = .ok (.iload_n 1, 1) := dX8_may_r0.2.2.2.2.2.2.1
theorem dX8_may_12 : decode cX8_may 12 = .ok (.invokevirtual 180, 3) := dX8_may_r0.2.2.2.2.2.2.2.1
theorem dX8_may_15 : decode cX8_may 15 = .ok (.ifCond .eq 7, 3) := dX8_may_r0.2.2.2.2.2.2.2.2.1
theorem dX8_may_18 : decode cX8_may 18 = .ok (.iconst 1, 1) := dX8_may_r0.2.2.2.2.2.2.2.2.2.1
theorem dX8_may_19 : decode cX8_may 19 = .ok (.goto 13, 3) := dX8_may_r0.2.2.2.2.2.2.2.2.2.2.1
theorem dX8_may_22 : decode cX8_may 22 = .ok (.iconst 0, 1) := dX8_may_r0.2.2.2.2.2.2.2.2.2.2.2.1
theorem dX8_may_23 : decode cX8_may 23 = .ok (.goto 9, 3) := dX8_may_r0.2.2.2.2.2.2.2.2.2.2.2.2.1
theorem dX8_may_26 : decode cX8_may 26 = .ok (.aload_n 0, 1) := dX8_may_r0.2.2.2.2.2.2.2.2.2.2.2.2.2.1
theorem dX8_may_27 : decode cX8_may 27 = .ok (.bipush (-6), 2) := dX8_may_r0.2.2.2.2.2.2.2.2.2.2.2.2.2.2.1
theorem dX8_may_29 : decode cX8_may 29 = .ok (.invokevirtual 115, 3) := dX8_may_r0.2.2.2.2.2.2.2.2.2.2.2.2.2.2.2.1
theorem dX8_may_32 : decode cX8_may 32 = .ok (.ireturn, 1) := zdc_ok (by decide +kernel)
def wp_172 (v1 : Int32) (m : zf_Me) (Q : Int32 → zf_Me → Prop) : Prop := ((v1.toInt < 0 → wp_125 (-6) m (fun x1 m2 => Q x1 m2)) ∧ (v1.toInt ≥ 0 → ((v1.toInt > 9 → wp_125 (-6) m (fun x3 m4 => Q x3 m4)) ∧ (v1.toInt ≤ 9 → wp_167 v1 m (fun b5 m6 => ((b5 = false → Q 0 m6) ∧ (b5 = true → Q 1 m6)))))))
theorem zr_172 {d : Nat} (hd : 3 ≤ d) {v1 : Int32} {Q : Int32 → zf_Me → Prop} {m : zf_Me} (h : wp_172 v1 m Q) : zf_M d 172 [.inr (.inr (1, 63)), .inl v1] m (zf_I Q) := by
  obtain ⟨e, rfl⟩ : ∃ z, d = z + 1 := ⟨d - 1, by omega⟩
  unfold wp_172 at h
  refine zf_M_of (Nat.le_of_ble_eq_true rfl) zm_172 (L := [some (.inr (.inr (1, 63))), some (.inl v1)]) rfl ?_
  refine zf_ld (pc' := 1) (v := .inl v1) dX8_may_0 rfl (fun _ _ _ => rfl) rfl rfl rfl ?_
  refine zf_if_lt (tgt := 26) (pc' := 4) dX8_may_1 rfl rfl (fun g => ?_) (fun g => ?_)
  · replace h := h.1 g
    refine zf_ld (pc' := 27) (v := .inr (.inr (1, 63))) dX8_may_26 rfl (fun _ _ _ => rfl) rfl rfl rfl ?_
    refine zf_bi (v := (-6)) (pc' := 29) dX8_may_27 rfl rfl ?_
    refine zf_iv (k := 125) (pc' := 32) (r := []) dX8_may_29 rfl rfl rfl rfl (by decide) rfl rfl rfl (zr_125 (by omega) h) (zf_kI (fun x1 m2 h => ?_))
    exact zf_ri dX8_may_32 rfl h
  · replace h := h.2 g
    refine zf_ld (pc' := 5) (v := .inl v1) dX8_may_4 rfl (fun _ _ _ => rfl) rfl rfl rfl ?_
    refine zf_bi (v := 9) (pc' := 7) dX8_may_5 rfl rfl ?_
    refine zf_icmp_gt (tgt := 26) (pc' := 10) dX8_may_7 rfl rfl (fun g => ?_) (fun g => ?_)
    · replace h := h.1 g
      refine zf_ld (pc' := 27) (v := .inr (.inr (1, 63))) dX8_may_26 rfl (fun _ _ _ => rfl) rfl rfl rfl ?_
      refine zf_bi (v := (-6)) (pc' := 29) dX8_may_27 rfl rfl ?_
      refine zf_iv (k := 125) (pc' := 32) (r := []) dX8_may_29 rfl rfl rfl rfl (by decide) rfl rfl rfl (zr_125 (by omega) h) (zf_kI (fun x3 m4 h => ?_))
      exact zf_ri dX8_may_32 rfl h
    · replace h := h.2 g
      refine zf_ld (pc' := 11) (v := .inr (.inr (1, 63))) dX8_may_10 rfl (fun _ _ _ => rfl) rfl rfl rfl ?_
      refine zf_ld (pc' := 12) (v := .inl v1) dX8_may_11 rfl (fun _ _ _ => rfl) rfl rfl rfl ?_
      refine zf_iv (k := 167) (pc' := 15) (r := []) dX8_may_12 rfl rfl rfl rfl (by decide) rfl rfl rfl (zr_167 (by omega) h) (zf_kB (fun b5 m6 h => ?_))
      refine zf_ib_eq (tgt := 22) (pc' := 18) dX8_may_15 rfl rfl (fun g => ?_) (fun g => ?_)
      · replace h := h.1 g
        refine zf_ic (v := 0) (pc' := 23) dX8_may_22 rfl rfl ?_
        refine zf_goto (tgt := 32) dX8_may_23 rfl ?_
        exact zf_ri dX8_may_32 rfl h
      · replace h := h.2 g
        refine zf_ic (v := 1) (pc' := 19) dX8_may_18 rfl rfl ?_
        refine zf_goto (tgt := 32) dX8_may_19 rfl ?_
        exact zf_ri dX8_may_32 rfl h
def zt_173 : zx_MT := (8, yX8_next, cX8_next, 3, (some FieldType.int), 0, 0)
theorem zm_173 : zx_m 173 = zt_173 := rfl
theorem dX8_next_r0 : zdcP cX8_next 0 [(.iconst 0, 1), (.istore_n 1, 1), (.iconst 0, 1), (.istore_n 2, 1), (.iload_n 2, 1), (.bipush 9, 2), (.if_icmp .gt 23, 3), (.aload_n 0, 1), (.iload_n 2, 1), (.invokevirtual 180, 3), (.ifCond .eq 9, 3), (.iload_n 1, 1), (.iconst 1, 1), (.iload_n 2, 1), (.ishl, 1), (.ior, 1)] := zdcA_ok (by decide +kernel)
theorem dX8_next_0 : decode cX8_next 0 = .ok (.iconst 0, 1) := dX8_next_r0.1
theorem dX8_next_1 : decode cX8_next 1 = .ok (.istore_n 1, 1) := dX8_next_r0.2.1
theorem dX8_next_2 : decode cX8_next 2 = .ok (.iconst 0, 1) := dX8_next_r0.2.2.1
theorem dX8_next_3 : decode cX8_next 3 = .ok (.istore_n 2, 1) := dX8_next_r0.2.2.2.1
theorem dX8_next_4 : decode cX8_next 4 = .ok (.iload_n 2, 1) := dX8_next_r0.2.2.2.2.1
theorem dX8_next_5 : decode cX8_next 5 = .ok (.bipush 9, 2) := dX8_next_r0.2.2.2.2.2.1
theorem dX8_next_7 : decode cX8_next 7 = .ok (.if_icmp .gt 23, 3) := dX8_next_r0.2.2.2.2.2.2.1
theorem dX8_next_10 : decode cX8_next 10 = .ok (.aload_n 0, 1) := dX8_next_r0.2.2.2.2.2.2.2.1
theorem dX8_next_11 : decode cX8_next 11 = .ok (.iload_n 2, 1) := dX8_next_r0.2.2.2.2.2.2.2.2.1
theorem dX8_next_12 : decode cX8_next 12 = .ok (.invokevirtual 180, 3) := dX8_next_r0.2.2.2.2.2.2.2.2.2.1
theorem dX8_next_15 : decode cX8_next 15 = .ok (.ifCond .eq 9, 3) := dX8_next_r0.2.2.2.2.2.2.2.2.2.2.1
theorem dX8_next_18 : decode cX8_next 18 = .ok (.iload_n 1, 1) := dX8_next_r0.2.2.2.2.2.2.2.2.2.2.2.1
theorem dX8_next_19 : decode cX8_next 19 = .ok (.iconst 1, 1) := dX8_next_r0.2.2.2.2.2.2.2.2.2.2.2.2.1
theorem dX8_next_20 : decode cX8_next 20 = .ok (.iload_n 2, 1) := dX8_next_r0.2.2.2.2.2.2.2.2.2.2.2.2.2.1
theorem dX8_next_21 : decode cX8_next 21 = .ok (.ishl, 1) := dX8_next_r0.2.2.2.2.2.2.2.2.2.2.2.2.2.2.1
theorem dX8_next_22 : decode cX8_next 22 = .ok (.ior, 1) := dX8_next_r0.2.2.2.2.2.2.2.2.2.2.2.2.2.2.2.1
theorem dX8_next_r23 : zdcP cX8_next 23 [(.istore_n 1, 1), (.iinc 2 1, 3), (.goto (-23), 3), (.iload_n 1, 1), (.ireturn, 1)] := zdcA_ok (by decide +kernel)
theorem dX8_next_23 : decode cX8_next 23 = .ok (.istore_n 1, 1) := dX8_next_r23.1
theorem dX8_next_24 : decode cX8_next 24 = .ok (.iinc 2 1, 3) := dX8_next_r23.2.1
theorem dX8_next_27 : decode cX8_next 27 = .ok (.goto (-23), 3) := dX8_next_r23.2.2.1
theorem dX8_next_30 : decode cX8_next 30 = .ok (.iload_n 1, 1) := dX8_next_r23.2.2.2.1
theorem dX8_next_31 : decode cX8_next 31 = .ok (.ireturn, 1) := dX8_next_r23.2.2.2.2.1
def wq_173_4 (Q : Int32 → zf_Me → Prop) : Nat → Int32 → Int32 → zf_Me → Prop
  | 0, _, _, _ => False
  | n + 1, v1, v2, m => ((v2.toInt > 9 → Q v1 m) ∧ (v2.toInt ≤ 9 → wp_167 v2 m (fun b1 m2 => ((b1 = false → wq_173_4 Q n v1 (v2 + 1) m2) ∧ (b1 = true → wq_173_4 Q n (v1 ||| (1 <<< (v2 &&& 31))) (v2 + 1) m2)))))
theorem zq_173_4 {d : Nat} (hd : 3 ≤ d) {Q : Int32 → zf_Me → Prop} : ∀ (n : Nat) (v1 : Int32) (v2 : Int32) (m : zf_Me), wq_173_4 Q n v1 v2 m → zf_W none 0 0 d zt_173 4 [some (.inr (.inr (1, 63))), some (.inl v1), some (.inl v2)] [] m (zf_I Q) := by
  obtain ⟨e, rfl⟩ : ∃ z, d = z + 1 := ⟨d - 1, by omega⟩
  intro n
  induction n with
  | zero =>
    intro v1 v2 m h
    exact h.elim
  | succ n ih =>
    intro v1 v2 m h
    unfold wq_173_4 at h
    refine zf_ld (pc' := 5) (v := .inl v2) dX8_next_4 rfl (fun _ _ _ => rfl) rfl rfl rfl ?_
    refine zf_bi (v := 9) (pc' := 7) dX8_next_5 rfl rfl ?_
    refine zf_icmp_gt (tgt := 30) (pc' := 10) dX8_next_7 rfl rfl (fun g => ?_) (fun g => ?_)
    · replace h := h.1 g
      refine zf_ld (pc' := 31) (v := .inl v1) dX8_next_30 rfl (fun _ _ _ => rfl) rfl rfl rfl ?_
      exact zf_ri dX8_next_31 rfl h
    · replace h := h.2 g
      refine zf_ld (pc' := 11) (v := .inr (.inr (1, 63))) dX8_next_10 rfl (fun _ _ _ => rfl) rfl rfl rfl ?_
      refine zf_ld (pc' := 12) (v := .inl v2) dX8_next_11 rfl (fun _ _ _ => rfl) rfl rfl rfl ?_
      refine zf_iv (k := 167) (pc' := 15) (r := []) dX8_next_12 rfl rfl rfl rfl (by decide) rfl rfl rfl (zr_167 (by omega) h) (zf_kB (fun b1 m2 h => ?_))
      refine zf_ib_eq (tgt := 24) (pc' := 18) dX8_next_15 rfl rfl (fun g => ?_) (fun g => ?_)
      · replace h := h.1 g
        refine zf_ii (y := (v2 + 1)) (L2 := [some (.inr (.inr (1, 63))), some (.inl v1), some (.inl (v2 + 1))]) (pc' := 27) dX8_next_24 rfl rfl rfl rfl rfl ?_
        refine zf_goto (tgt := 4) dX8_next_27 rfl ?_
        exact zf_lo (ih _ _ _ h) ⟨rfl, rfl, rfl, trivial⟩
      · replace h := h.2 g
        refine zf_ld (pc' := 19) (v := .inl v1) dX8_next_18 rfl (fun _ _ _ => rfl) rfl rfl rfl ?_
        refine zf_ic (v := 1) (pc' := 20) dX8_next_19 rfl rfl ?_
        refine zf_ld (pc' := 21) (v := .inl v2) dX8_next_20 rfl (fun _ _ _ => rfl) rfl rfl rfl ?_
        refine zf_in (pc' := 22) (S' := [.inl (1 <<< (v2 &&& 31)), .inl v1]) dX8_next_21 rfl (fun _ _ _ => rfl) ?_
        refine zf_in (pc' := 23) (S' := [.inl (v1 ||| (1 <<< (v2 &&& 31)))]) dX8_next_22 rfl (fun _ _ _ => rfl) ?_
        refine zf_st (pc' := 24) (L2 := [some (.inr (.inr (1, 63))), some (.inl (v1 ||| (1 <<< (v2 &&& 31)))), some (.inl v2)]) dX8_next_23 rfl (fun _ _ _ => rfl) rfl rfl rfl rfl rfl rfl ?_
        refine zf_ii (y := (v2 + 1)) (L2 := [some (.inr (.inr (1, 63))), some (.inl (v1 ||| (1 <<< (v2 &&& 31)))), some (.inl (v2 + 1))]) (pc' := 27) dX8_next_24 rfl rfl rfl rfl rfl ?_
        refine zf_goto (tgt := 4) dX8_next_27 rfl ?_
        exact zf_lo (ih _ _ _ h) ⟨rfl, rfl, rfl, trivial⟩
def wp_173 (m : zf_Me) (Q : Int32 → zf_Me → Prop) : Prop := (∃ n4, wq_173_4 Q n4 0 0 m)
theorem zr_173 {d : Nat} (hd : 3 ≤ d) {Q : Int32 → zf_Me → Prop} {m : zf_Me} (h : wp_173 m Q) : zf_M d 173 [.inr (.inr (1, 63))] m (zf_I Q) := by
  unfold wp_173 at h
  refine zf_M_of (Nat.le_of_ble_eq_true rfl) zm_173 (L := [some (.inr (.inr (1, 63))), none, none]) rfl ?_
  refine zf_ic (v := 0) (pc' := 1) dX8_next_0 rfl rfl ?_
  refine zf_st (pc' := 2) (L2 := [some (.inr (.inr (1, 63))), some (.inl 0), none]) dX8_next_1 rfl (fun _ _ _ => rfl) rfl rfl rfl rfl rfl rfl ?_
  refine zf_ic (v := 0) (pc' := 3) dX8_next_2 rfl rfl ?_
  refine zf_st (pc' := 4) (L2 := [some (.inr (.inr (1, 63))), some (.inl 0), some (.inl 0)]) dX8_next_3 rfl (fun _ _ _ => rfl) rfl rfl rfl rfl rfl rfl ?_
  obtain ⟨n4, h⟩ := h
  exact zf_lo (zq_173_4 (by omega) n4 _ _ _ h) ⟨rfl, rfl, rfl, trivial⟩
def zt_174 : zx_MT := (8, yX8_looks, cX8_looks, 7, none, 3, 0)
theorem zm_174 : zx_m 174 = zt_174 := rfl
theorem dX8_looks_r0 : zdcP cX8_looks 0 [(.iload_n 1, 1), (.iload_n 2, 1), (.if_icmp .eq 14, 3), (.aload_n 0, 1), (.getfield 207, 3), (.aload_n 0, 1), (.getfield 108, 3), (.if_icmp .ne 7, 3), (.iconst 0, 1), (.goto 7, 3), (.aload_n 0, 1), (.invokevirtual 226, 3), (.istore 4, 2), (.iload 4, 2), (.ifCond .ne 129, 3), (.aload_n 0, 1)] := zdcA_ok (by decide +kernel)
theorem dX8_looks_0 : decode cX8_looks 0 = .ok (.iload_n 1, 1) := dX8_looks_r0.1
theorem dX8_looks_1 : decode cX8_looks 1 = .ok (.iload_n 2, 1) := dX8_looks_r0.2.1
theorem dX8_looks_2 : decode cX8_looks 2 = .ok (.if_icmp .eq 14, 3) := dX8_looks_r0.2.2.1
theorem dX8_looks_5 : decode cX8_looks 5 = .ok (.aload_n 0, 1) := dX8_looks_r0.2.2.2.1
theorem dX8_looks_6 : decode cX8_looks 6 = .ok (.getfield 207, 3) := dX8_looks_r0.2.2.2.2.1
theorem dX8_looks_9 : decode cX8_looks 9 = .ok (.aload_n 0, 1) := dX8_looks_r0.2.2.2.2.2.1
theorem dX8_looks_10 : decode cX8_looks 10 = .ok (.getfield 108, 3) := dX8_looks_r0.2.2.2.2.2.2.1
theorem dX8_looks_13 : decode cX8_looks 13 = .ok (.if_icmp .ne 7, 3) := dX8_looks_r0.2.2.2.2.2.2.2.1
theorem dX8_looks_16 : decode cX8_looks 16 = .ok (.iconst 0, 1) := dX8_looks_r0.2.2.2.2.2.2.2.2.1
theorem dX8_looks_17 : decode cX8_looks 17 = .ok (.goto 7, 3) := dX8_looks_r0.2.2.2.2.2.2.2.2.2.1
theorem dX8_looks_20 : decode cX8_looks 20 = .ok (.aload_n 0, 1) := dX8_looks_r0.2.2.2.2.2.2.2.2.2.2.1
theorem dX8_looks_21 : decode cX8_looks 21 = .ok (.invokevirtual 226, 3) := dX8_looks_r0.2.2.2.2.2.2.2.2.2.2.2.1
theorem dX8_looks_24 : decode cX8_looks 24 = .ok (.istore 4, 2) := dX8_looks_r0.2.2.2.2.2.2.2.2.2.2.2.2.1
theorem dX8_looks_26 : decode cX8_looks 26 = .ok (.iload 4, 2) := dX8_looks_r0.2.2.2.2.2.2.2.2.2.2.2.2.2.1
theorem dX8_looks_28 : decode cX8_looks 28 = .ok (.ifCond .ne 129, 3) := dX8_looks_r0.2.2.2.2.2.2.2.2.2.2.2.2.2.2.1
theorem dX8_looks_31 : decode cX8_looks 31 = .ok (.aload_n 0, 1) := dX8_looks_r0.2.2.2.2.2.2.2.2.2.2.2.2.2.2.2.1
theorem dX8_looks_r32 : zdcP cX8_looks 32 [(.getfield 229, 3), (.iconst (-1), 1), (.if_icmp .eq 52, 3), (.aload_n 0, 1), (.getfield 207, 3), (.aload_n 0, 1), (.getfield 232, 3), (.if_icmp .gt 41, 3), (.aload_n 0, 1), (.getfield 207, 3), (.aload_n 0, 1), (.getfield 232, 3), (.if_icmp .ne 34, 3), (.iload_n 3, 1), (.aload_n 0, 1), (.getfield 235, 3)] := zdcA_ok (by decide +kernel)
theorem dX8_looks_32 : decode cX8_looks 32 = .ok (.getfield 229, 3) := dX8_looks_r32.1
theorem dX8_looks_35 : decode cX8_looks 35 = .ok (.iconst (-1), 1) := dX8_looks_r32.2.1
theorem dX8_looks_36 : decode cX8_looks 36 = .ok (.if_icmp .eq 52, 3) := dX8_looks_r32.2.2.1
theorem dX8_looks_39 : decode cX8_looks 39 = .ok (.aload_n 0, 1) := dX8_looks_r32.2.2.2.1
theorem dX8_looks_40 : decode cX8_looks 40 = .ok (.getfield 207, 3) := dX8_looks_r32.2.2.2.2.1
theorem dX8_looks_43 : decode cX8_looks 43 = .ok (.aload_n 0, 1) := dX8_looks_r32.2.2.2.2.2.1
theorem dX8_looks_44 : decode cX8_looks 44 = .ok (.getfield 232, 3) := dX8_looks_r32.2.2.2.2.2.2.1
theorem dX8_looks_47 : decode cX8_looks 47 = .ok (.if_icmp .gt 41, 3) := dX8_looks_r32.2.2.2.2.2.2.2.1
theorem dX8_looks_50 : decode cX8_looks 50 = .ok (.aload_n 0, 1) := dX8_looks_r32.2.2.2.2.2.2.2.2.1
theorem dX8_looks_51 : decode cX8_looks 51 = .ok (.getfield 207, 3) := dX8_looks_r32.2.2.2.2.2.2.2.2.2.1
theorem dX8_looks_54 : decode cX8_looks 54 = .ok (.aload_n 0, 1) := dX8_looks_r32.2.2.2.2.2.2.2.2.2.2.1
theorem dX8_looks_55 : decode cX8_looks 55 = .ok (.getfield 232, 3) := dX8_looks_r32.2.2.2.2.2.2.2.2.2.2.2.1
theorem dX8_looks_58 : decode cX8_looks 58 = .ok (.if_icmp .ne 34, 3) := dX8_looks_r32.2.2.2.2.2.2.2.2.2.2.2.2.1
theorem dX8_looks_61 : decode cX8_looks 61 = .ok (.iload_n 3, 1) := dX8_looks_r32.2.2.2.2.2.2.2.2.2.2.2.2.2.1
theorem dX8_looks_62 : decode cX8_looks 62 = .ok (.aload_n 0, 1) := dX8_looks_r32.2.2.2.2.2.2.2.2.2.2.2.2.2.2.1
theorem dX8_looks_63 : decode cX8_looks 63 = .ok (.getfield 235, 3) := dX8_looks_r32.2.2.2.2.2.2.2.2.2.2.2.2.2.2.2.1
theorem dX8_looks_r66 : zdcP cX8_looks 66 [(.if_icmp .lt 22, 3), (.iload_n 3, 1), (.aload_n 0, 1), (.getfield 235, 3), (.if_icmp .ne 18, 3), (.aload_n 0, 1), (.getfield 210, 3), (.aload_n 0, 1), (.getfield 238, 3), (.if_icmp .ge 7, 3), (.iconst 1, 1), (.goto 4, 3), (.iconst 0, 1), (.istore 5, 2), (.iload 5, 2), (.ifCond .ne 4, 3)] := zdcA_ok (by decide +kernel)
theorem dX8_looks_66 : decode cX8_looks 66 = .ok (.if_icmp .lt 22, 3) := dX8_looks_r66.1
theorem dX8_looks_69 : decode cX8_looks 69 = .ok (.iload_n 3, 1) := dX8_looks_r66.2.1
theorem dX8_looks_70 : decode cX8_looks 70 = .ok (.aload_n 0, 1) := dX8_looks_r66.2.2.1
theorem dX8_looks_71 : decode cX8_looks 71 = .ok (.getfield 235, 3) := dX8_looks_r66.2.2.2.1
theorem dX8_looks_74 : decode cX8_looks 74 = .ok (.if_icmp .ne 18, 3) := dX8_looks_r66.2.2.2.2.1
theorem dX8_looks_77 : decode cX8_looks 77 = .ok (.aload_n 0, 1) := dX8_looks_r66.2.2.2.2.2.1
theorem dX8_looks_78 : decode cX8_looks 78 = .ok (.getfield 210, 3) := dX8_looks_r66.2.2.2.2.2.2.1
theorem dX8_looks_81 : decode cX8_looks 81 = .ok (.aload_n 0, 1) := dX8_looks_r66.2.2.2.2.2.2.2.1
theorem dX8_looks_82 : decode cX8_looks 82 = .ok (.getfield 238, 3) := dX8_looks_r66.2.2.2.2.2.2.2.2.1
theorem dX8_looks_85 : decode cX8_looks 85 = .ok (.if_icmp .ge 7, 3) := dX8_looks_r66.2.2.2.2.2.2.2.2.2.1
theorem dX8_looks_88 : decode cX8_looks 88 = .ok (.iconst 1, 1) := dX8_looks_r66.2.2.2.2.2.2.2.2.2.2.1
theorem dX8_looks_89 : decode cX8_looks 89 = .ok (.goto 4, 3) := dX8_looks_r66.2.2.2.2.2.2.2.2.2.2.2.1
theorem dX8_looks_92 : decode cX8_looks 92 = .ok (.iconst 0, 1) := dX8_looks_r66.2.2.2.2.2.2.2.2.2.2.2.2.1
theorem dX8_looks_93 : decode cX8_looks 93 = .ok (.istore 5, 2) := dX8_looks_r66.2.2.2.2.2.2.2.2.2.2.2.2.2.1
theorem dX8_looks_95 : decode cX8_looks 95 = .ok (.iload 5, 2) := dX8_looks_r66.2.2.2.2.2.2.2.2.2.2.2.2.2.2.1
theorem dX8_looks_97 : decode cX8_looks 97 = .ok (.ifCond .ne 4, 3) := dX8_looks_r66.2.2.2.2.2.2.2.2.2.2.2.2.2.2.2.1
theorem dX8_looks_r100 : zdcP cX8_looks 100 [(.return_, 1), (.aload_n 0, 1), (.iload_n 1, 1), (.putfield 229, 3), (.aload_n 0, 1), (.aload_n 0, 1), (.getfield 207, 3), (.putfield 232, 3), (.aload_n 0, 1), (.iload_n 3, 1), (.putfield 235, 3), (.aload_n 0, 1), (.aload_n 0, 1), (.getfield 210, 3), (.putfield 238, 3), (.iconst 0, 1)] := zdcA_ok (by decide +kernel)
theorem dX8_looks_100 : decode cX8_looks 100 = .ok (.return_, 1) := dX8_looks_r100.1
theorem dX8_looks_101 : decode cX8_looks 101 = .ok (.aload_n 0, 1) := dX8_looks_r100.2.1
theorem dX8_looks_102 : decode cX8_looks 102 = .ok (.iload_n 1, 1) := dX8_looks_r100.2.2.1
theorem dX8_looks_103 : decode cX8_looks 103 = .ok (.putfield 229, 3) := dX8_looks_r100.2.2.2.1
theorem dX8_looks_106 : decode cX8_looks 106 = .ok (.aload_n 0, 1) := dX8_looks_r100.2.2.2.2.1
theorem dX8_looks_107 : decode cX8_looks 107 = .ok (.aload_n 0, 1) := dX8_looks_r100.2.2.2.2.2.1
theorem dX8_looks_108 : decode cX8_looks 108 = .ok (.getfield 207, 3) := dX8_looks_r100.2.2.2.2.2.2.1
theorem dX8_looks_111 : decode cX8_looks 111 = .ok (.putfield 232, 3) := dX8_looks_r100.2.2.2.2.2.2.2.1
theorem dX8_looks_114 : decode cX8_looks 114 = .ok (.aload_n 0, 1) := dX8_looks_r100.2.2.2.2.2.2.2.2.1
theorem dX8_looks_115 : decode cX8_looks 115 = .ok (.iload_n 3, 1) := dX8_looks_r100.2.2.2.2.2.2.2.2.2.1
theorem dX8_looks_116 : decode cX8_looks 116 = .ok (.putfield 235, 3) := dX8_looks_r100.2.2.2.2.2.2.2.2.2.2.1
theorem dX8_looks_119 : decode cX8_looks 119 = .ok (.aload_n 0, 1) := dX8_looks_r100.2.2.2.2.2.2.2.2.2.2.2.1
theorem dX8_looks_120 : decode cX8_looks 120 = .ok (.aload_n 0, 1) := dX8_looks_r100.2.2.2.2.2.2.2.2.2.2.2.2.1
theorem dX8_looks_121 : decode cX8_looks 121 = .ok (.getfield 210, 3) := dX8_looks_r100.2.2.2.2.2.2.2.2.2.2.2.2.2.1
theorem dX8_looks_124 : decode cX8_looks 124 = .ok (.putfield 238, 3) := dX8_looks_r100.2.2.2.2.2.2.2.2.2.2.2.2.2.2.1
theorem dX8_looks_127 : decode cX8_looks 127 = .ok (.iconst 0, 1) := dX8_looks_r100.2.2.2.2.2.2.2.2.2.2.2.2.2.2.2.1
theorem dX8_looks_r128 : zdcP cX8_looks 128 [(.istore 6, 2), (.iload 6, 2), (.iload_n 1, 1), (.if_icmp .ge 23, 3), (.aload_n 0, 1), (.getfield 99, 3), (.iload 6, 2), (.aload_n 0, 1), (.getfield 96, 3), (.iload 6, 2), (.iaload, 1), (.iastore, 1), (.iinc 6 1, 3), (.goto (-23), 3), (.return_, 1), (.aload_n 0, 1)] := zdcA_ok (by decide +kernel)
theorem dX8_looks_128 : decode cX8_looks 128 = .ok (.istore 6, 2) := dX8_looks_r128.1
theorem dX8_looks_130 : decode cX8_looks 130 = .ok (.iload 6, 2) := dX8_looks_r128.2.1
theorem dX8_looks_132 : decode cX8_looks 132 = .ok (.iload_n 1, 1) := dX8_looks_r128.2.2.1
theorem dX8_looks_133 : decode cX8_looks 133 = .ok (.if_icmp .ge 23, 3) := dX8_looks_r128.2.2.2.1
theorem dX8_looks_136 : decode cX8_looks 136 = .ok (.aload_n 0, 1) := dX8_looks_r128.2.2.2.2.1
theorem dX8_looks_137 : decode cX8_looks 137 = .ok (.getfield 99, 3) := dX8_looks_r128.2.2.2.2.2.1
theorem dX8_looks_140 : decode cX8_looks 140 = .ok (.iload 6, 2) := dX8_looks_r128.2.2.2.2.2.2.1
theorem dX8_looks_142 : decode cX8_looks 142 = .ok (.aload_n 0, 1) := dX8_looks_r128.2.2.2.2.2.2.2.1
theorem dX8_looks_143 : decode cX8_looks 143 = .ok (.getfield 96, 3) := dX8_looks_r128.2.2.2.2.2.2.2.2.1
theorem dX8_looks_146 : decode cX8_looks 146 = .ok (.iload 6, 2) := dX8_looks_r128.2.2.2.2.2.2.2.2.2.1
theorem dX8_looks_148 : decode cX8_looks 148 = .ok (.iaload, 1) := dX8_looks_r128.2.2.2.2.2.2.2.2.2.2.1
theorem dX8_looks_149 : decode cX8_looks 149 = .ok (.iastore, 1) := dX8_looks_r128.2.2.2.2.2.2.2.2.2.2.2.1
theorem dX8_looks_150 : decode cX8_looks 150 = .ok (.iinc 6 1, 3) := dX8_looks_r128.2.2.2.2.2.2.2.2.2.2.2.2.1
theorem dX8_looks_153 : decode cX8_looks 153 = .ok (.goto (-23), 3) := dX8_looks_r128.2.2.2.2.2.2.2.2.2.2.2.2.2.1
theorem dX8_looks_156 : decode cX8_looks 156 = .ok (.return_, 1) := dX8_looks_r128.2.2.2.2.2.2.2.2.2.2.2.2.2.2.1
theorem dX8_looks_157 : decode cX8_looks 157 = .ok (.aload_n 0, 1) := dX8_looks_r128.2.2.2.2.2.2.2.2.2.2.2.2.2.2.2.1
theorem dX8_looks_r158 : zdcP cX8_looks 158 [(.aload_n 0, 1), (.getfield 93, 3), (.bipush 90, 2), (.iload_n 1, 1), (.imul, 1), (.iconst 0, 1), (.invokevirtual 213, 3), (.iconst 0, 1), (.istore 5, 2), (.iload 5, 2), (.bipush 9, 2), (.if_icmp .gt 75, 3), (.iload 4, 2), (.iload 5, 2), (.ishr, 1), (.iconst 1, 1)] := zdcA_ok (by decide +kernel)
theorem dX8_looks_158 : decode cX8_looks 158 = .ok (.aload_n 0, 1) := dX8_looks_r158.1
theorem dX8_looks_159 : decode cX8_looks 159 = .ok (.getfield 93, 3) := dX8_looks_r158.2.1
theorem dX8_looks_162 : decode cX8_looks 162 = .ok (.bipush 90, 2) := dX8_looks_r158.2.2.1
theorem dX8_looks_164 : decode cX8_looks 164 = .ok (.iload_n 1, 1) := dX8_looks_r158.2.2.2.1
theorem dX8_looks_165 : decode cX8_looks 165 = .ok (.imul, 1) := dX8_looks_r158.2.2.2.2.1
theorem dX8_looks_166 : decode cX8_looks 166 = .ok (.iconst 0, 1) := dX8_looks_r158.2.2.2.2.2.1
theorem dX8_looks_167 : decode cX8_looks 167 = .ok (.invokevirtual 213, 3) := dX8_looks_r158.2.2.2.2.2.2.1
theorem dX8_looks_170 : decode cX8_looks 170 = .ok (.iconst 0, 1) := dX8_looks_r158.2.2.2.2.2.2.2.1
theorem dX8_looks_171 : decode cX8_looks 171 = .ok (.istore 5, 2) := dX8_looks_r158.2.2.2.2.2.2.2.2.1
theorem dX8_looks_173 : decode cX8_looks 173 = .ok (.iload 5, 2) := dX8_looks_r158.2.2.2.2.2.2.2.2.2.1
theorem dX8_looks_175 : decode cX8_looks 175 = .ok (.bipush 9, 2) := dX8_looks_r158.2.2.2.2.2.2.2.2.2.2.1
theorem dX8_looks_177 : decode cX8_looks 177 = .ok (.if_icmp .gt 75, 3) := dX8_looks_r158.2.2.2.2.2.2.2.2.2.2.2.1
theorem dX8_looks_180 : decode cX8_looks 180 = .ok (.iload 4, 2) := dX8_looks_r158.2.2.2.2.2.2.2.2.2.2.2.2.1
theorem dX8_looks_182 : decode cX8_looks 182 = .ok (.iload 5, 2) := dX8_looks_r158.2.2.2.2.2.2.2.2.2.2.2.2.2.1
theorem dX8_looks_184 : decode cX8_looks 184 = .ok (.ishr, 1) := dX8_looks_r158.2.2.2.2.2.2.2.2.2.2.2.2.2.2.1
theorem dX8_looks_185 : decode cX8_looks 185 = .ok (.iconst 1, 1) := dX8_looks_r158.2.2.2.2.2.2.2.2.2.2.2.2.2.2.2.1
theorem dX8_looks_r186 : zdcP cX8_looks 186 [(.iand, 1), (.ifCond .ne 6, 3), (.goto 56, 3), (.aload_n 0, 1), (.getfield 96, 3), (.iload_n 1, 1), (.iload 5, 2), (.iastore, 1), (.aload_n 0, 1), (.iload 5, 2), (.invokevirtual 196, 3), (.aload_n 0, 1), (.invokevirtual 241, 3), (.istore 6, 2), (.aload_n 0, 1), (.iload_n 1, 1)] := zdcA_ok (by decide +kernel)
theorem dX8_looks_186 : decode cX8_looks 186 = .ok (.iand, 1) := dX8_looks_r186.1
theorem dX8_looks_187 : decode cX8_looks 187 = .ok (.ifCond .ne 6, 3) := dX8_looks_r186.2.1
theorem dX8_looks_190 : decode cX8_looks 190 = .ok (.goto 56, 3) := dX8_looks_r186.2.2.1
theorem dX8_looks_193 : decode cX8_looks 193 = .ok (.aload_n 0, 1) := dX8_looks_r186.2.2.2.1
theorem dX8_looks_194 : decode cX8_looks 194 = .ok (.getfield 96, 3) := dX8_looks_r186.2.2.2.2.1
theorem dX8_looks_197 : decode cX8_looks 197 = .ok (.iload_n 1, 1) := dX8_looks_r186.2.2.2.2.2.1
theorem dX8_looks_198 : decode cX8_looks 198 = .ok (.iload 5, 2) := dX8_looks_r186.2.2.2.2.2.2.1
theorem dX8_looks_200 : decode cX8_looks 200 = .ok (.iastore, 1) := dX8_looks_r186.2.2.2.2.2.2.2.1
theorem dX8_looks_201 : decode cX8_looks 201 = .ok (.aload_n 0, 1) := dX8_looks_r186.2.2.2.2.2.2.2.2.1
theorem dX8_looks_202 : decode cX8_looks 202 = .ok (.iload 5, 2) := dX8_looks_r186.2.2.2.2.2.2.2.2.2.1
theorem dX8_looks_204 : decode cX8_looks 204 = .ok (.invokevirtual 196, 3) := dX8_looks_r186.2.2.2.2.2.2.2.2.2.2.1
theorem dX8_looks_207 : decode cX8_looks 207 = .ok (.aload_n 0, 1) := dX8_looks_r186.2.2.2.2.2.2.2.2.2.2.2.1
theorem dX8_looks_208 : decode cX8_looks 208 = .ok (.invokevirtual 241, 3) := dX8_looks_r186.2.2.2.2.2.2.2.2.2.2.2.2.1
theorem dX8_looks_211 : decode cX8_looks 211 = .ok (.istore 6, 2) := dX8_looks_r186.2.2.2.2.2.2.2.2.2.2.2.2.2.1
theorem dX8_looks_213 : decode cX8_looks 213 = .ok (.aload_n 0, 1) := dX8_looks_r186.2.2.2.2.2.2.2.2.2.2.2.2.2.2.1
theorem dX8_looks_214 : decode cX8_looks 214 = .ok (.iload_n 1, 1) := dX8_looks_r186.2.2.2.2.2.2.2.2.2.2.2.2.2.2.2.1
theorem dX8_looks_r215 : zdcP cX8_looks 215 [(.iconst 1, 1), (.iadd, 1), (.iload_n 2, 1), (.iload 6, 2), (.iload_n 3, 1), (.if_icmp .le 8, 3), (.iload 6, 2), (.goto 4, 3), (.iload_n 3, 1), (.invokevirtual 244, 3), (.aload_n 0, 1), (.aload_n 0, 1), (.getfield 93, 3), (.bipush 90, 2), (.iload_n 1, 1), (.imul, 1)] := zdcA_ok (by decide +kernel)
theorem dX8_looks_215 : decode cX8_looks 215 = .ok (.iconst 1, 1) := dX8_looks_r215.1
theorem dX8_looks_216 : decode cX8_looks 216 = .ok (.iadd, 1) := dX8_looks_r215.2.1
theorem dX8_looks_217 : decode cX8_looks 217 = .ok (.iload_n 2, 1) := dX8_looks_r215.2.2.1
theorem dX8_looks_218 : decode cX8_looks 218 = .ok (.iload 6, 2) := dX8_looks_r215.2.2.2.1
theorem dX8_looks_220 : decode cX8_looks 220 = .ok (.iload_n 3, 1) := dX8_looks_r215.2.2.2.2.1
theorem dX8_looks_221 : decode cX8_looks 221 = .ok (.if_icmp .le 8, 3) := dX8_looks_r215.2.2.2.2.2.1
theorem dX8_looks_224 : decode cX8_looks 224 = .ok (.iload 6, 2) := dX8_looks_r215.2.2.2.2.2.2.1
theorem dX8_looks_226 : decode cX8_looks 226 = .ok (.goto 4, 3) := dX8_looks_r215.2.2.2.2.2.2.2.1
theorem dX8_looks_229 : decode cX8_looks 229 = .ok (.iload_n 3, 1) := dX8_looks_r215.2.2.2.2.2.2.2.2.1
theorem dX8_looks_230 : decode cX8_looks 230 = .ok (.invokevirtual 244, 3) := dX8_looks_r215.2.2.2.2.2.2.2.2.2.1
theorem dX8_looks_233 : decode cX8_looks 233 = .ok (.aload_n 0, 1) := dX8_looks_r215.2.2.2.2.2.2.2.2.2.2.1
theorem dX8_looks_234 : decode cX8_looks 234 = .ok (.aload_n 0, 1) := dX8_looks_r215.2.2.2.2.2.2.2.2.2.2.2.1
theorem dX8_looks_235 : decode cX8_looks 235 = .ok (.getfield 93, 3) := dX8_looks_r215.2.2.2.2.2.2.2.2.2.2.2.2.1
theorem dX8_looks_238 : decode cX8_looks 238 = .ok (.bipush 90, 2) := dX8_looks_r215.2.2.2.2.2.2.2.2.2.2.2.2.2.1
theorem dX8_looks_240 : decode cX8_looks 240 = .ok (.iload_n 1, 1) := dX8_looks_r215.2.2.2.2.2.2.2.2.2.2.2.2.2.2.1
theorem dX8_looks_241 : decode cX8_looks 241 = .ok (.imul, 1) := dX8_looks_r215.2.2.2.2.2.2.2.2.2.2.2.2.2.2.2.1
theorem dX8_looks_r242 : zdcP cX8_looks 242 [(.iconst 1, 1), (.invokevirtual 213, 3), (.iinc 5 1, 3), (.goto (-76), 3), (.return_, 1)] := zdcA_ok (by decide +kernel)
theorem dX8_looks_242 : decode cX8_looks 242 = .ok (.iconst 1, 1) := dX8_looks_r242.1
theorem dX8_looks_243 : decode cX8_looks 243 = .ok (.invokevirtual 213, 3) := dX8_looks_r242.2.1
theorem dX8_looks_246 : decode cX8_looks 246 = .ok (.iinc 5 1, 3) := dX8_looks_r242.2.2.1
theorem dX8_looks_249 : decode cX8_looks 249 = .ok (.goto (-76), 3) := dX8_looks_r242.2.2.2.1
theorem dX8_looks_252 : decode cX8_looks 252 = .ok (.return_, 1) := dX8_looks_r242.2.2.2.2.1
def wq_174_230 (R : Int32 → Int32 → Int32 → zf_Me → (zf_Me → Prop) → Prop) (v1 : Int32) (v2 : Int32) (v3 : Int32) (F173 : Int32 → Int32 → zf_Me → Prop) (v4 : Int32) (v5 : Int32) (u0 : Int32) (u1 : Int32) (u2 : Int32) (m : zf_Me) (Q : zf_Me → Prop) : Prop := R u2 u1 u0 m (fun m10 => wp_161 82 450 (90 * v1) 1 m10 (fun m12 => F173 v4 (v5 + 1) m12))
theorem zq_174_230 {e : Nat} (hd : 3 ≤ e) {R : Int32 → Int32 → Int32 → zf_Me → (zf_Me → Prop) → Prop} (hR : ∀ (v1 : Int32) (v2 : Int32) (v3 : Int32) (m : zf_Me) (Q : zf_Me → Prop), R v1 v2 v3 m Q → zf_M e 174 [.inr (.inr (1, 63)), .inl v1, .inl v2, .inl v3] m (zf_O Q)) {v1 : Int32} {v2 : Int32} {v3 : Int32} {F173 : Int32 → Int32 → zf_Me → Prop} {Q : zf_Me → Prop} (hF173 : ∀ (v4 : Int32) (v5 : Int32) (m : zf_Me), F173 v4 v5 m → zf_W none 0 0 (e + 1) zt_174 173 [some (.inr (.inr (1, 63))), some (.inl v1), some (.inl v2), some (.inl v3), some (.inl v4), some (.inl v5), none] [] m (zf_O Q)) {v4 : Int32} {v5 : Int32} {u0 : Int32} {u1 : Int32} {u2 : Int32} {m : zf_Me} (h : wq_174_230 R v1 v2 v3 F173 v4 v5 u0 u1 u2 m Q) : zf_W none 0 0 (e + 1) zt_174 230 [some (.inr (.inr (1, 63))), some (.inl v1), some (.inl v2), some (.inl v3), some (.inl v4), some (.inl v5), none] [.inl u0, .inl u1, .inl u2, .inr (.inr (1, 63))] m (zf_O Q) := by
  unfold wq_174_230 at h
  refine zf_iv (k := 174) (pc' := 233) (r := []) dX8_looks_230 rfl rfl rfl rfl (by decide) rfl rfl rfl (hR _ _ _ _ _ h) (zf_kO (fun m10 h => ?_))
  refine zf_ld (pc' := 234) (v := .inr (.inr (1, 63))) dX8_looks_233 rfl (fun _ _ _ => rfl) rfl rfl rfl ?_
  refine zf_ld (pc' := 235) (v := .inr (.inr (1, 63))) dX8_looks_234 rfl (fun _ _ _ => rfl) rfl rfl rfl ?_
  refine zf_gfr (pc' := 238) (b := 82) dX8_looks_235 rfl rfl (by decide) rfl rfl ?_
  refine zf_bi (v := 90) (pc' := 240) dX8_looks_238 rfl rfl ?_
  refine zf_ld (pc' := 241) (v := .inl v1) dX8_looks_240 rfl (fun _ _ _ => rfl) rfl rfl rfl ?_
  refine zf_in (pc' := 242) (S' := [.inl (90 * v1), .inr (.inr (1, 82)), .inr (.inr (1, 63))]) dX8_looks_241 rfl (fun _ _ _ => rfl) ?_
  refine zf_ic (v := 1) (pc' := 243) dX8_looks_242 rfl rfl ?_
  refine zf_iv (k := 161) (pc' := 246) (r := []) dX8_looks_243 rfl rfl rfl rfl (by decide) rfl rfl rfl (zr_161 (by omega) (⟨by decide, rfl⟩ : zf_arr 82 450) h) (zf_kO (fun m12 h => ?_))
  refine zf_ii (y := (v5 + 1)) (L2 := [some (.inr (.inr (1, 63))), some (.inl v1), some (.inl v2), some (.inl v3), some (.inl v4), some (.inl (v5 + 1)), none]) (pc' := 249) dX8_looks_246 rfl rfl rfl rfl rfl ?_
  refine zf_goto (tgt := 173) dX8_looks_249 rfl ?_
  exact zf_lo (hF173 _ _ _ h) ⟨rfl, rfl, rfl, rfl, rfl, rfl, trivial⟩
def wq_174_173 (R : Int32 → Int32 → Int32 → zf_Me → (zf_Me → Prop) → Prop) (v1 : Int32) (v2 : Int32) (v3 : Int32) (Q : zf_Me → Prop) : Nat → Int32 → Int32 → zf_Me → Prop
  | 0, _, _, _ => False
  | n + 1, v4, v5, m => ((v5.toInt > 9 → Q m) ∧ (v5.toInt ≤ 9 → ((¬ (((v4 >>> (v5 &&& 31)) &&& 1)).toInt = 0 → ((0 ≤ (Int32.toInt v1) ∧ (Int32.toInt v1) < (4 : Int)) ∧ ∀ m3, m3 = zf_u m 83 (Int32.toInt v1).toNat v5 → wp_169 v5 m3 (fun m6 => wp_170 m6 (fun x7 m8 => ((x7.toInt ≤ v3.toInt → wq_174_230 R v1 v2 v3 (wq_174_173 R v1 v2 v3 Q n) v4 v5 v3 v2 (v1 + 1) m8 Q) ∧ (x7.toInt > v3.toInt → wq_174_230 R v1 v2 v3 (wq_174_173 R v1 v2 v3 Q n) v4 v5 x7 v2 (v1 + 1) m8 Q)))))) ∧ ((((v4 >>> (v5 &&& 31)) &&& 1)).toInt = 0 → wq_174_173 R v1 v2 v3 Q n v4 (v5 + 1) m))))
theorem zq_174_173 {e : Nat} (hd : 3 ≤ e) {R : Int32 → Int32 → Int32 → zf_Me → (zf_Me → Prop) → Prop} (hR : ∀ (v1 : Int32) (v2 : Int32) (v3 : Int32) (m : zf_Me) (Q : zf_Me → Prop), R v1 v2 v3 m Q → zf_M e 174 [.inr (.inr (1, 63)), .inl v1, .inl v2, .inl v3] m (zf_O Q)) {v1 : Int32} {v2 : Int32} {v3 : Int32} {Q : zf_Me → Prop} : ∀ (n : Nat) (v4 : Int32) (v5 : Int32) (m : zf_Me), wq_174_173 R v1 v2 v3 Q n v4 v5 m → zf_W none 0 0 (e + 1) zt_174 173 [some (.inr (.inr (1, 63))), some (.inl v1), some (.inl v2), some (.inl v3), some (.inl v4), some (.inl v5), none] [] m (zf_O Q) := by
  intro n
  induction n with
  | zero =>
    intro v4 v5 m h
    exact h.elim
  | succ n ih =>
    intro v4 v5 m h
    unfold wq_174_173 at h
    refine zf_ld (pc' := 175) (v := .inl v5) dX8_looks_173 rfl (fun _ _ _ => rfl) rfl rfl rfl ?_
    refine zf_bi (v := 9) (pc' := 177) dX8_looks_175 rfl rfl ?_
    refine zf_icmp_gt (tgt := 252) (pc' := 180) dX8_looks_177 rfl rfl (fun g => ?_) (fun g => ?_)
    · replace h := h.1 g
      exact zf_rv dX8_looks_252 rfl h
    · replace h := h.2 g
      refine zf_ld (pc' := 182) (v := .inl v4) dX8_looks_180 rfl (fun _ _ _ => rfl) rfl rfl rfl ?_
      refine zf_ld (pc' := 184) (v := .inl v5) dX8_looks_182 rfl (fun _ _ _ => rfl) rfl rfl rfl ?_
      refine zf_in (pc' := 185) (S' := [.inl (v4 >>> (v5 &&& 31))]) dX8_looks_184 rfl (fun _ _ _ => rfl) ?_
      refine zf_ic (v := 1) (pc' := 186) dX8_looks_185 rfl rfl ?_
      refine zf_in (pc' := 187) (S' := [.inl ((v4 >>> (v5 &&& 31)) &&& 1)]) dX8_looks_186 rfl (fun _ _ _ => rfl) ?_
      refine zf_if_ne (tgt := 193) (pc' := 190) dX8_looks_187 rfl rfl (fun g => ?_) (fun g => ?_)
      · replace h := h.1 g
        refine zf_ld (pc' := 194) (v := .inr (.inr (1, 63))) dX8_looks_193 rfl (fun _ _ _ => rfl) rfl rfl rfl ?_
        refine zf_gfr (pc' := 197) (b := 83) dX8_looks_194 rfl rfl (by decide) rfl rfl ?_
        refine zf_ld (pc' := 198) (v := .inl v1) dX8_looks_197 rfl (fun _ _ _ => rfl) rfl rfl rfl ?_
        refine zf_ld (pc' := 200) (v := .inl v5) dX8_looks_198 rfl (fun _ _ _ => rfl) rfl rfl rfl ?_
        refine zf_ias (pc' := 201) dX8_looks_200 rfl (⟨by decide, rfl⟩ : zf_arr 83 4).1 (⟨by decide, rfl⟩ : zf_arr 83 4).2 h.1 rfl (fun m3 e4 => ?_)
        replace h := h.2 m3 e4
        refine zf_ld (pc' := 202) (v := .inr (.inr (1, 63))) dX8_looks_201 rfl (fun _ _ _ => rfl) rfl rfl rfl ?_
        refine zf_ld (pc' := 204) (v := .inl v5) dX8_looks_202 rfl (fun _ _ _ => rfl) rfl rfl rfl ?_
        refine zf_iv (k := 169) (pc' := 207) (r := []) dX8_looks_204 rfl rfl rfl rfl (by decide) rfl rfl rfl (zr_169 (by omega) h) (zf_kO (fun m6 h => ?_))
        refine zf_ld (pc' := 208) (v := .inr (.inr (1, 63))) dX8_looks_207 rfl (fun _ _ _ => rfl) rfl rfl rfl ?_
        refine zf_iv (k := 170) (pc' := 211) (r := []) dX8_looks_208 rfl rfl rfl rfl (by decide) rfl rfl rfl (zr_170 (by omega) h) (zf_kI (fun x7 m8 h => ?_))
        refine zf_st (pc' := 213) (L2 := [some (.inr (.inr (1, 63))), some (.inl v1), some (.inl v2), some (.inl v3), some (.inl v4), some (.inl v5), some (.inl x7)]) dX8_looks_211 rfl (fun _ _ _ => rfl) rfl rfl rfl rfl rfl rfl ?_
        refine zf_ld (pc' := 214) (v := .inr (.inr (1, 63))) dX8_looks_213 rfl (fun _ _ _ => rfl) rfl rfl rfl ?_
        refine zf_ld (pc' := 215) (v := .inl v1) dX8_looks_214 rfl (fun _ _ _ => rfl) rfl rfl rfl ?_
        refine zf_ic (v := 1) (pc' := 216) dX8_looks_215 rfl rfl ?_
        refine zf_in (pc' := 217) (S' := [.inl (v1 + 1), .inr (.inr (1, 63))]) dX8_looks_216 rfl (fun _ _ _ => rfl) ?_
        refine zf_ld (pc' := 218) (v := .inl v2) dX8_looks_217 rfl (fun _ _ _ => rfl) rfl rfl rfl ?_
        refine zf_ld (pc' := 220) (v := .inl x7) dX8_looks_218 rfl (fun _ _ _ => rfl) rfl rfl rfl ?_
        refine zf_ld (pc' := 221) (v := .inl v3) dX8_looks_220 rfl (fun _ _ _ => rfl) rfl rfl rfl ?_
        refine zf_icmp_le (tgt := 229) (pc' := 224) dX8_looks_221 rfl rfl (fun g => ?_) (fun g => ?_)
        · replace h := h.1 g
          refine zf_ld (pc' := 230) (v := .inl v3) dX8_looks_229 rfl (fun _ _ _ => rfl) rfl rfl rfl ?_
          exact zf_lo (zq_174_230 (by omega) hR ih h) ⟨rfl, rfl, rfl, rfl, rfl, rfl, trivial⟩
        · replace h := h.2 g
          refine zf_ld (pc' := 226) (v := .inl x7) dX8_looks_224 rfl (fun _ _ _ => rfl) rfl rfl rfl ?_
          refine zf_goto (tgt := 230) dX8_looks_226 rfl ?_
          exact zf_lo (zq_174_230 (by omega) hR ih h) ⟨rfl, rfl, rfl, rfl, rfl, rfl, trivial⟩
      · replace h := h.2 g
        refine zf_goto (tgt := 246) dX8_looks_190 rfl ?_
        refine zf_ii (y := (v5 + 1)) (L2 := [some (.inr (.inr (1, 63))), some (.inl v1), some (.inl v2), some (.inl v3), some (.inl v4), some (.inl (v5 + 1)), none]) (pc' := 249) dX8_looks_246 rfl rfl rfl rfl rfl ?_
        refine zf_goto (tgt := 173) dX8_looks_249 rfl ?_
        exact zf_lo (ih _ _ _ h) ⟨rfl, rfl, rfl, rfl, rfl, rfl, trivial⟩
def wq_174_130 (R : Int32 → Int32 → Int32 → zf_Me → (zf_Me → Prop) → Prop) (v1 : Int32) (v2 : Int32) (v3 : Int32) (Q : zf_Me → Prop) : Nat → Int32 → zf_Me → Prop
  | 0, _, _ => False
  | n + 1, v6, m => ((v6.toInt ≥ v1.toInt → Q m) ∧ (v6.toInt < v1.toInt → ((0 ≤ (Int32.toInt v6) ∧ (Int32.toInt v6) < (4 : Int)) ∧ ((0 ≤ (Int32.toInt v6) ∧ (Int32.toInt v6) < (4 : Int)) ∧ ∀ m21, m21 = zf_u m 84 (Int32.toInt v6).toNat (m.1 83 (Int32.toInt v6).toNat) → wq_174_130 R v1 v2 v3 Q n (v6 + 1) m21))))
theorem zq_174_130 {e : Nat} (hd : 3 ≤ e) {R : Int32 → Int32 → Int32 → zf_Me → (zf_Me → Prop) → Prop} (hR : ∀ (v1 : Int32) (v2 : Int32) (v3 : Int32) (m : zf_Me) (Q : zf_Me → Prop), R v1 v2 v3 m Q → zf_M e 174 [.inr (.inr (1, 63)), .inl v1, .inl v2, .inl v3] m (zf_O Q)) {v1 : Int32} {v2 : Int32} {v3 : Int32} {Q : zf_Me → Prop} : ∀ (n : Nat) (v6 : Int32) (m : zf_Me), wq_174_130 R v1 v2 v3 Q n v6 m → zf_W none 0 0 (e + 1) zt_174 130 [some (.inr (.inr (1, 63))), some (.inl v1), none, none, none, none, some (.inl v6)] [] m (zf_O Q) := by
  intro n
  induction n with
  | zero =>
    intro v6 m h
    exact h.elim
  | succ n ih =>
    intro v6 m h
    unfold wq_174_130 at h
    refine zf_ld (pc' := 132) (v := .inl v6) dX8_looks_130 rfl (fun _ _ _ => rfl) rfl rfl rfl ?_
    refine zf_ld (pc' := 133) (v := .inl v1) dX8_looks_132 rfl (fun _ _ _ => rfl) rfl rfl rfl ?_
    refine zf_icmp_ge (tgt := 156) (pc' := 136) dX8_looks_133 rfl rfl (fun g => ?_) (fun g => ?_)
    · replace h := h.1 g
      exact zf_rv dX8_looks_156 rfl h
    · replace h := h.2 g
      refine zf_ld (pc' := 137) (v := .inr (.inr (1, 63))) dX8_looks_136 rfl (fun _ _ _ => rfl) rfl rfl rfl ?_
      refine zf_gfr (pc' := 140) (b := 84) dX8_looks_137 rfl rfl (by decide) rfl rfl ?_
      refine zf_ld (pc' := 142) (v := .inl v6) dX8_looks_140 rfl (fun _ _ _ => rfl) rfl rfl rfl ?_
      refine zf_ld (pc' := 143) (v := .inr (.inr (1, 63))) dX8_looks_142 rfl (fun _ _ _ => rfl) rfl rfl rfl ?_
      refine zf_gfr (pc' := 146) (b := 83) dX8_looks_143 rfl rfl (by decide) rfl rfl ?_
      refine zf_ld (pc' := 148) (v := .inl v6) dX8_looks_146 rfl (fun _ _ _ => rfl) rfl rfl rfl ?_
      refine zf_ial (pc' := 149) dX8_looks_148 rfl (⟨by decide, rfl⟩ : zf_arr 83 4).1 (⟨by decide, rfl⟩ : zf_arr 83 4).2 h.1 rfl ?_
      replace h := h.2
      refine zf_ias (pc' := 150) dX8_looks_149 rfl (⟨by decide, rfl⟩ : zf_arr 84 4).1 (⟨by decide, rfl⟩ : zf_arr 84 4).2 h.1 rfl (fun m21 e22 => ?_)
      replace h := h.2 m21 e22
      refine zf_ii (y := (v6 + 1)) (L2 := [some (.inr (.inr (1, 63))), some (.inl v1), none, none, none, none, some (.inl (v6 + 1))]) (pc' := 153) dX8_looks_150 rfl rfl rfl rfl rfl ?_
      refine zf_goto (tgt := 130) dX8_looks_153 rfl ?_
      exact zf_lo (ih _ _ h) ⟨rfl, rfl, rfl, trivial⟩
def wq_174_93 (R : Int32 → Int32 → Int32 → zf_Me → (zf_Me → Prop) → Prop) (v1 : Int32) (v2 : Int32) (v3 : Int32) (u0 : Int32) (m : zf_Me) (Q : zf_Me → Prop) : Prop := ((¬ u0.toInt = 0 → (∀ m13, m13 = zf_u m 63 40 v1 → (∀ m15, m15 = zf_u m13 63 41 (m13.1 63 10) → (∀ m17, m17 = zf_u m15 63 42 v3 → (∀ m19, m19 = zf_u m17 63 43 (m17.1 63 11) → (∃ n130, wq_174_130 R v1 v2 v3 Q n130 0 m19)))))) ∧ (u0.toInt = 0 → Q m))
theorem zq_174_93 {e : Nat} (hd : 3 ≤ e) {R : Int32 → Int32 → Int32 → zf_Me → (zf_Me → Prop) → Prop} (hR : ∀ (v1 : Int32) (v2 : Int32) (v3 : Int32) (m : zf_Me) (Q : zf_Me → Prop), R v1 v2 v3 m Q → zf_M e 174 [.inr (.inr (1, 63)), .inl v1, .inl v2, .inl v3] m (zf_O Q)) {v1 : Int32} {v2 : Int32} {v3 : Int32} {Q : zf_Me → Prop} {u0 : Int32} {m : zf_Me} (h : wq_174_93 R v1 v2 v3 u0 m Q) : zf_W none 0 0 (e + 1) zt_174 93 [some (.inr (.inr (1, 63))), some (.inl v1), none, some (.inl v3), none, none, none] [.inl u0] m (zf_O Q) := by
  unfold wq_174_93 at h
  refine zf_st (pc' := 95) (L2 := [some (.inr (.inr (1, 63))), some (.inl v1), none, some (.inl v3), none, some (.inl u0), none]) dX8_looks_93 rfl (fun _ _ _ => rfl) rfl rfl rfl rfl rfl rfl ?_
  refine zf_ld (pc' := 97) (v := .inl u0) dX8_looks_95 rfl (fun _ _ _ => rfl) rfl rfl rfl ?_
  refine zf_if_ne (tgt := 101) (pc' := 100) dX8_looks_97 rfl rfl (fun g => ?_) (fun g => ?_)
  · replace h := h.1 g
    refine zf_ld (pc' := 102) (v := .inr (.inr (1, 63))) dX8_looks_101 rfl (fun _ _ _ => rfl) rfl rfl rfl ?_
    refine zf_ld (pc' := 103) (v := .inl v1) dX8_looks_102 rfl (fun _ _ _ => rfl) rfl rfl rfl ?_
    refine zf_pf (pc' := 106) dX8_looks_103 rfl rfl (by decide) rfl rfl rfl (fun m13 e14 => ?_)
    replace h := h m13 e14
    refine zf_ld (pc' := 107) (v := .inr (.inr (1, 63))) dX8_looks_106 rfl (fun _ _ _ => rfl) rfl rfl rfl ?_
    refine zf_ld (pc' := 108) (v := .inr (.inr (1, 63))) dX8_looks_107 rfl (fun _ _ _ => rfl) rfl rfl rfl ?_
    refine zf_gfi (pc' := 111) dX8_looks_108 rfl rfl (by decide) rfl rfl ?_
    refine zf_pf (pc' := 114) dX8_looks_111 rfl rfl (by decide) rfl rfl rfl (fun m15 e16 => ?_)
    replace h := h m15 e16
    refine zf_ld (pc' := 115) (v := .inr (.inr (1, 63))) dX8_looks_114 rfl (fun _ _ _ => rfl) rfl rfl rfl ?_
    refine zf_ld (pc' := 116) (v := .inl v3) dX8_looks_115 rfl (fun _ _ _ => rfl) rfl rfl rfl ?_
    refine zf_pf (pc' := 119) dX8_looks_116 rfl rfl (by decide) rfl rfl rfl (fun m17 e18 => ?_)
    replace h := h m17 e18
    refine zf_ld (pc' := 120) (v := .inr (.inr (1, 63))) dX8_looks_119 rfl (fun _ _ _ => rfl) rfl rfl rfl ?_
    refine zf_ld (pc' := 121) (v := .inr (.inr (1, 63))) dX8_looks_120 rfl (fun _ _ _ => rfl) rfl rfl rfl ?_
    refine zf_gfi (pc' := 124) dX8_looks_121 rfl rfl (by decide) rfl rfl ?_
    refine zf_pf (pc' := 127) dX8_looks_124 rfl rfl (by decide) rfl rfl rfl (fun m19 e20 => ?_)
    replace h := h m19 e20
    refine zf_ic (v := 0) (pc' := 128) dX8_looks_127 rfl rfl ?_
    refine zf_st (pc' := 130) (L2 := [some (.inr (.inr (1, 63))), some (.inl v1), none, some (.inl v3), none, some (.inl u0), some (.inl 0)]) dX8_looks_128 rfl (fun _ _ _ => rfl) rfl rfl rfl rfl rfl rfl ?_
    obtain ⟨n130, h⟩ := h
    exact zf_lo (zq_174_130 (by omega) hR n130 _ _ h) ⟨rfl, rfl, rfl, trivial⟩
  · replace h := h.2 g
    exact zf_rv dX8_looks_100 rfl h
def wq_174_88 (R : Int32 → Int32 → Int32 → zf_Me → (zf_Me → Prop) → Prop) (v1 : Int32) (v2 : Int32) (v3 : Int32) (m : zf_Me) (Q : zf_Me → Prop) : Prop := wq_174_93 R v1 v2 v3 1 m Q
theorem zq_174_88 {e : Nat} (hd : 3 ≤ e) {R : Int32 → Int32 → Int32 → zf_Me → (zf_Me → Prop) → Prop} (hR : ∀ (v1 : Int32) (v2 : Int32) (v3 : Int32) (m : zf_Me) (Q : zf_Me → Prop), R v1 v2 v3 m Q → zf_M e 174 [.inr (.inr (1, 63)), .inl v1, .inl v2, .inl v3] m (zf_O Q)) {v1 : Int32} {v2 : Int32} {v3 : Int32} {Q : zf_Me → Prop} {m : zf_Me} (h : wq_174_88 R v1 v2 v3 m Q) : zf_W none 0 0 (e + 1) zt_174 88 [some (.inr (.inr (1, 63))), some (.inl v1), none, some (.inl v3), none, none, none] [] m (zf_O Q) := by
  unfold wq_174_88 at h
  refine zf_ic (v := 1) (pc' := 89) dX8_looks_88 rfl rfl ?_
  refine zf_goto (tgt := 93) dX8_looks_89 rfl ?_
  exact zf_lo (zq_174_93 (by omega) hR h) ⟨rfl, rfl, rfl, trivial⟩
def wq_174_92 (R : Int32 → Int32 → Int32 → zf_Me → (zf_Me → Prop) → Prop) (v1 : Int32) (v2 : Int32) (v3 : Int32) (m : zf_Me) (Q : zf_Me → Prop) : Prop := wq_174_93 R v1 v2 v3 0 m Q
theorem zq_174_92 {e : Nat} (hd : 3 ≤ e) {R : Int32 → Int32 → Int32 → zf_Me → (zf_Me → Prop) → Prop} (hR : ∀ (v1 : Int32) (v2 : Int32) (v3 : Int32) (m : zf_Me) (Q : zf_Me → Prop), R v1 v2 v3 m Q → zf_M e 174 [.inr (.inr (1, 63)), .inl v1, .inl v2, .inl v3] m (zf_O Q)) {v1 : Int32} {v2 : Int32} {v3 : Int32} {Q : zf_Me → Prop} {m : zf_Me} (h : wq_174_92 R v1 v2 v3 m Q) : zf_W none 0 0 (e + 1) zt_174 92 [some (.inr (.inr (1, 63))), some (.inl v1), none, some (.inl v3), none, none, none] [] m (zf_O Q) := by
  unfold wq_174_92 at h
  refine zf_ic (v := 0) (pc' := 93) dX8_looks_92 rfl rfl ?_
  exact zf_lo (zq_174_93 (by omega) hR h) ⟨rfl, rfl, rfl, trivial⟩
def wq_174_24 (R : Int32 → Int32 → Int32 → zf_Me → (zf_Me → Prop) → Prop) (v1 : Int32) (v2 : Int32) (v3 : Int32) (u0 : Int32) (m : zf_Me) (Q : zf_Me → Prop) : Prop := ((¬ u0.toInt = 0 → wp_161 82 450 (90 * v1) 0 m (fun m2 => (∃ n173, wq_174_173 R v1 v2 v3 Q n173 u0 0 m2))) ∧ (u0.toInt = 0 → ((((m.1 63 40)).toInt = (-1) → wq_174_88 R v1 v2 v3 m Q) ∧ (¬ ((m.1 63 40)).toInt = (-1) → ((((m.1 63 10)).toInt > ((m.1 63 41)).toInt → wq_174_88 R v1 v2 v3 m Q) ∧ (((m.1 63 10)).toInt ≤ ((m.1 63 41)).toInt → ((¬ ((m.1 63 10)).toInt = ((m.1 63 41)).toInt → wq_174_92 R v1 v2 v3 m Q) ∧ (((m.1 63 10)).toInt = ((m.1 63 41)).toInt → ((v3.toInt < ((m.1 63 42)).toInt → wq_174_88 R v1 v2 v3 m Q) ∧ (v3.toInt ≥ ((m.1 63 42)).toInt → ((¬ v3.toInt = ((m.1 63 42)).toInt → wq_174_92 R v1 v2 v3 m Q) ∧ (v3.toInt = ((m.1 63 42)).toInt → ((((m.1 63 11)).toInt ≥ ((m.1 63 43)).toInt → wq_174_92 R v1 v2 v3 m Q) ∧ (((m.1 63 11)).toInt < ((m.1 63 43)).toInt → wq_174_88 R v1 v2 v3 m Q))))))))))))))
theorem zq_174_24 {e : Nat} (hd : 3 ≤ e) {R : Int32 → Int32 → Int32 → zf_Me → (zf_Me → Prop) → Prop} (hR : ∀ (v1 : Int32) (v2 : Int32) (v3 : Int32) (m : zf_Me) (Q : zf_Me → Prop), R v1 v2 v3 m Q → zf_M e 174 [.inr (.inr (1, 63)), .inl v1, .inl v2, .inl v3] m (zf_O Q)) {v1 : Int32} {v2 : Int32} {v3 : Int32} {Q : zf_Me → Prop} {u0 : Int32} {m : zf_Me} (h : wq_174_24 R v1 v2 v3 u0 m Q) : zf_W none 0 0 (e + 1) zt_174 24 [some (.inr (.inr (1, 63))), some (.inl v1), some (.inl v2), some (.inl v3), none, none, none] [.inl u0] m (zf_O Q) := by
  unfold wq_174_24 at h
  refine zf_st (pc' := 26) (L2 := [some (.inr (.inr (1, 63))), some (.inl v1), some (.inl v2), some (.inl v3), some (.inl u0), none, none]) dX8_looks_24 rfl (fun _ _ _ => rfl) rfl rfl rfl rfl rfl rfl ?_
  refine zf_ld (pc' := 28) (v := .inl u0) dX8_looks_26 rfl (fun _ _ _ => rfl) rfl rfl rfl ?_
  refine zf_if_ne (tgt := 157) (pc' := 31) dX8_looks_28 rfl rfl (fun g => ?_) (fun g => ?_)
  · replace h := h.1 g
    refine zf_ld (pc' := 158) (v := .inr (.inr (1, 63))) dX8_looks_157 rfl (fun _ _ _ => rfl) rfl rfl rfl ?_
    refine zf_ld (pc' := 159) (v := .inr (.inr (1, 63))) dX8_looks_158 rfl (fun _ _ _ => rfl) rfl rfl rfl ?_
    refine zf_gfr (pc' := 162) (b := 82) dX8_looks_159 rfl rfl (by decide) rfl rfl ?_
    refine zf_bi (v := 90) (pc' := 164) dX8_looks_162 rfl rfl ?_
    refine zf_ld (pc' := 165) (v := .inl v1) dX8_looks_164 rfl (fun _ _ _ => rfl) rfl rfl rfl ?_
    refine zf_in (pc' := 166) (S' := [.inl (90 * v1), .inr (.inr (1, 82)), .inr (.inr (1, 63))]) dX8_looks_165 rfl (fun _ _ _ => rfl) ?_
    refine zf_ic (v := 0) (pc' := 167) dX8_looks_166 rfl rfl ?_
    refine zf_iv (k := 161) (pc' := 170) (r := []) dX8_looks_167 rfl rfl rfl rfl (by decide) rfl rfl rfl (zr_161 (by omega) (⟨by decide, rfl⟩ : zf_arr 82 450) h) (zf_kO (fun m2 h => ?_))
    refine zf_ic (v := 0) (pc' := 171) dX8_looks_170 rfl rfl ?_
    refine zf_st (pc' := 173) (L2 := [some (.inr (.inr (1, 63))), some (.inl v1), some (.inl v2), some (.inl v3), some (.inl u0), some (.inl 0), none]) dX8_looks_171 rfl (fun _ _ _ => rfl) rfl rfl rfl rfl rfl rfl ?_
    obtain ⟨n173, h⟩ := h
    exact zf_lo (zq_174_173 (by omega) hR n173 _ _ _ h) ⟨rfl, rfl, rfl, rfl, rfl, rfl, trivial⟩
  · replace h := h.2 g
    refine zf_ld (pc' := 32) (v := .inr (.inr (1, 63))) dX8_looks_31 rfl (fun _ _ _ => rfl) rfl rfl rfl ?_
    refine zf_gfi (pc' := 35) dX8_looks_32 rfl rfl (by decide) rfl rfl ?_
    refine zf_ic (v := (-1)) (pc' := 36) dX8_looks_35 rfl rfl ?_
    refine zf_icmp_eq (tgt := 88) (pc' := 39) dX8_looks_36 rfl rfl (fun g => ?_) (fun g => ?_)
    · replace h := h.1 g
      exact zf_lo (zq_174_88 (by omega) hR h) ⟨rfl, rfl, rfl, trivial⟩
    · replace h := h.2 g
      refine zf_ld (pc' := 40) (v := .inr (.inr (1, 63))) dX8_looks_39 rfl (fun _ _ _ => rfl) rfl rfl rfl ?_
      refine zf_gfi (pc' := 43) dX8_looks_40 rfl rfl (by decide) rfl rfl ?_
      refine zf_ld (pc' := 44) (v := .inr (.inr (1, 63))) dX8_looks_43 rfl (fun _ _ _ => rfl) rfl rfl rfl ?_
      refine zf_gfi (pc' := 47) dX8_looks_44 rfl rfl (by decide) rfl rfl ?_
      refine zf_icmp_gt (tgt := 88) (pc' := 50) dX8_looks_47 rfl rfl (fun g => ?_) (fun g => ?_)
      · replace h := h.1 g
        exact zf_lo (zq_174_88 (by omega) hR h) ⟨rfl, rfl, rfl, trivial⟩
      · replace h := h.2 g
        refine zf_ld (pc' := 51) (v := .inr (.inr (1, 63))) dX8_looks_50 rfl (fun _ _ _ => rfl) rfl rfl rfl ?_
        refine zf_gfi (pc' := 54) dX8_looks_51 rfl rfl (by decide) rfl rfl ?_
        refine zf_ld (pc' := 55) (v := .inr (.inr (1, 63))) dX8_looks_54 rfl (fun _ _ _ => rfl) rfl rfl rfl ?_
        refine zf_gfi (pc' := 58) dX8_looks_55 rfl rfl (by decide) rfl rfl ?_
        refine zf_icmp_ne (tgt := 92) (pc' := 61) dX8_looks_58 rfl rfl (fun g => ?_) (fun g => ?_)
        · replace h := h.1 g
          exact zf_lo (zq_174_92 (by omega) hR h) ⟨rfl, rfl, rfl, trivial⟩
        · replace h := h.2 g
          refine zf_ld (pc' := 62) (v := .inl v3) dX8_looks_61 rfl (fun _ _ _ => rfl) rfl rfl rfl ?_
          refine zf_ld (pc' := 63) (v := .inr (.inr (1, 63))) dX8_looks_62 rfl (fun _ _ _ => rfl) rfl rfl rfl ?_
          refine zf_gfi (pc' := 66) dX8_looks_63 rfl rfl (by decide) rfl rfl ?_
          refine zf_icmp_lt (tgt := 88) (pc' := 69) dX8_looks_66 rfl rfl (fun g => ?_) (fun g => ?_)
          · replace h := h.1 g
            exact zf_lo (zq_174_88 (by omega) hR h) ⟨rfl, rfl, rfl, trivial⟩
          · replace h := h.2 g
            refine zf_ld (pc' := 70) (v := .inl v3) dX8_looks_69 rfl (fun _ _ _ => rfl) rfl rfl rfl ?_
            refine zf_ld (pc' := 71) (v := .inr (.inr (1, 63))) dX8_looks_70 rfl (fun _ _ _ => rfl) rfl rfl rfl ?_
            refine zf_gfi (pc' := 74) dX8_looks_71 rfl rfl (by decide) rfl rfl ?_
            refine zf_icmp_ne (tgt := 92) (pc' := 77) dX8_looks_74 rfl rfl (fun g => ?_) (fun g => ?_)
            · replace h := h.1 g
              exact zf_lo (zq_174_92 (by omega) hR h) ⟨rfl, rfl, rfl, trivial⟩
            · replace h := h.2 g
              refine zf_ld (pc' := 78) (v := .inr (.inr (1, 63))) dX8_looks_77 rfl (fun _ _ _ => rfl) rfl rfl rfl ?_
              refine zf_gfi (pc' := 81) dX8_looks_78 rfl rfl (by decide) rfl rfl ?_
              refine zf_ld (pc' := 82) (v := .inr (.inr (1, 63))) dX8_looks_81 rfl (fun _ _ _ => rfl) rfl rfl rfl ?_
              refine zf_gfi (pc' := 85) dX8_looks_82 rfl rfl (by decide) rfl rfl ?_
              refine zf_icmp_ge (tgt := 92) (pc' := 88) dX8_looks_85 rfl rfl (fun g => ?_) (fun g => ?_)
              · replace h := h.1 g
                exact zf_lo (zq_174_92 (by omega) hR h) ⟨rfl, rfl, rfl, trivial⟩
              · replace h := h.2 g
                exact zf_lo (zq_174_88 (by omega) hR h) ⟨rfl, rfl, rfl, trivial⟩
def wq_174_16 (R : Int32 → Int32 → Int32 → zf_Me → (zf_Me → Prop) → Prop) (v1 : Int32) (v2 : Int32) (v3 : Int32) (m : zf_Me) (Q : zf_Me → Prop) : Prop := wq_174_24 R v1 v2 v3 0 m Q
theorem zq_174_16 {e : Nat} (hd : 3 ≤ e) {R : Int32 → Int32 → Int32 → zf_Me → (zf_Me → Prop) → Prop} (hR : ∀ (v1 : Int32) (v2 : Int32) (v3 : Int32) (m : zf_Me) (Q : zf_Me → Prop), R v1 v2 v3 m Q → zf_M e 174 [.inr (.inr (1, 63)), .inl v1, .inl v2, .inl v3] m (zf_O Q)) {v1 : Int32} {v2 : Int32} {v3 : Int32} {Q : zf_Me → Prop} {m : zf_Me} (h : wq_174_16 R v1 v2 v3 m Q) : zf_W none 0 0 (e + 1) zt_174 16 [some (.inr (.inr (1, 63))), some (.inl v1), some (.inl v2), some (.inl v3), none, none, none] [] m (zf_O Q) := by
  unfold wq_174_16 at h
  refine zf_ic (v := 0) (pc' := 17) dX8_looks_16 rfl rfl ?_
  refine zf_goto (tgt := 24) dX8_looks_17 rfl ?_
  exact zf_lo (zq_174_24 (by omega) hR h) ⟨rfl, rfl, rfl, rfl, trivial⟩
def wb_174 (R : Int32 → Int32 → Int32 → zf_Me → (zf_Me → Prop) → Prop) (v1 : Int32) (v2 : Int32) (v3 : Int32) (m : zf_Me) (Q : zf_Me → Prop) : Prop := ((v1.toInt = v2.toInt → wq_174_16 R v1 v2 v3 m Q) ∧ (¬ v1.toInt = v2.toInt → ((¬ ((m.1 63 10)).toInt = ((m.1 63 0)).toInt → wp_173 m (fun x23 m24 => wq_174_24 R v1 v2 v3 x23 m24 Q)) ∧ (((m.1 63 10)).toInt = ((m.1 63 0)).toInt → wq_174_16 R v1 v2 v3 m Q))))
theorem zb_174 {e : Nat} (hd : 3 ≤ e) {R : Int32 → Int32 → Int32 → zf_Me → (zf_Me → Prop) → Prop} (hR : ∀ (v1 : Int32) (v2 : Int32) (v3 : Int32) (m : zf_Me) (Q : zf_Me → Prop), R v1 v2 v3 m Q → zf_M e 174 [.inr (.inr (1, 63)), .inl v1, .inl v2, .inl v3] m (zf_O Q)) {v1 : Int32} {v2 : Int32} {v3 : Int32} {Q : zf_Me → Prop} {m : zf_Me} (h : wb_174 R v1 v2 v3 m Q) : zf_M (e + 1) 174 [.inr (.inr (1, 63)), .inl v1, .inl v2, .inl v3] m (zf_O Q) := by
  unfold wb_174 at h
  refine zf_M_of (Nat.le_of_ble_eq_true rfl) zm_174 (L := [some (.inr (.inr (1, 63))), some (.inl v1), some (.inl v2), some (.inl v3), none, none, none]) rfl ?_
  refine zf_ld (pc' := 1) (v := .inl v1) dX8_looks_0 rfl (fun _ _ _ => rfl) rfl rfl rfl ?_
  refine zf_ld (pc' := 2) (v := .inl v2) dX8_looks_1 rfl (fun _ _ _ => rfl) rfl rfl rfl ?_
  refine zf_icmp_eq (tgt := 16) (pc' := 5) dX8_looks_2 rfl rfl (fun g => ?_) (fun g => ?_)
  · replace h := h.1 g
    exact zf_lo (zq_174_16 (by omega) hR h) ⟨rfl, rfl, rfl, rfl, trivial⟩
  · replace h := h.2 g
    refine zf_ld (pc' := 6) (v := .inr (.inr (1, 63))) dX8_looks_5 rfl (fun _ _ _ => rfl) rfl rfl rfl ?_
    refine zf_gfi (pc' := 9) dX8_looks_6 rfl rfl (by decide) rfl rfl ?_
    refine zf_ld (pc' := 10) (v := .inr (.inr (1, 63))) dX8_looks_9 rfl (fun _ _ _ => rfl) rfl rfl rfl ?_
    refine zf_gfi (pc' := 13) dX8_looks_10 rfl rfl (by decide) rfl rfl ?_
    refine zf_icmp_ne (tgt := 20) (pc' := 16) dX8_looks_13 rfl rfl (fun g => ?_) (fun g => ?_)
    · replace h := h.1 g
      refine zf_ld (pc' := 21) (v := .inr (.inr (1, 63))) dX8_looks_20 rfl (fun _ _ _ => rfl) rfl rfl rfl ?_
      refine zf_iv (k := 173) (pc' := 24) (r := []) dX8_looks_21 rfl rfl rfl rfl (by decide) rfl rfl rfl (zr_173 (by omega) h) (zf_kI (fun x23 m24 h => ?_))
      exact zf_lo (zq_174_24 (by omega) hR h) ⟨rfl, rfl, rfl, rfl, trivial⟩
    · replace h := h.2 g
      exact zf_lo (zq_174_16 (by omega) hR h) ⟨rfl, rfl, rfl, rfl, trivial⟩
def wp_174 : Nat → Int32 → Int32 → Int32 → zf_Me → (zf_Me → Prop) → Prop
  | 0, _, _, _, _, _ => False
  | n + 1, v1, v2, v3, m, Q => wb_174 (wp_174 n) v1 v2 v3 m Q
theorem zr_174 : ∀ (n : Nat) {d : Nat} (_ : 1 * n + 6 ≤ d) {v1 : Int32} {v2 : Int32} {v3 : Int32} {m : zf_Me} {Q : zf_Me → Prop} (_ : wp_174 n v1 v2 v3 m Q), zf_M d 174 [.inr (.inr (1, 63)), .inl v1, .inl v2, .inl v3] m (zf_O Q) := by
  intro n
  induction n with
  | zero => intro d _ _ _ _ m Q h; exact h.elim
  | succ n ih =>
    intro d hd _ _ _ m Q h
    obtain ⟨e, rfl⟩ : ∃ z, d = z + 1 := ⟨d - 1, by omega⟩
    exact zb_174 (e := e) (R := wp_174 n) (by omega) (fun _ _ _ m Q h => ih (by omega) h) h
def zt_175 : zx_MT := (8, yX8_ahead, cX8_ahead, 5, (some FieldType.int), 2, 0)
theorem zm_175 : zx_m 175 = zt_175 := rfl
theorem dX8_ahead_r0 : zdcP cX8_ahead 0 [(.iload_n 2, 1), (.iconst (-1), 1), (.if_icmp .lt 9, 3), (.iload_n 2, 1), (.bipush 6, 2), (.if_icmp .le 10, 3), (.aload_n 0, 1), (.bipush (-5), 2), (.invokevirtual 115, 3), (.ireturn, 1), (.iload_n 1, 1), (.iconst 1, 1), (.if_icmp .lt 8, 3), (.iload_n 1, 1), (.iconst 4, 1), (.if_icmp .le 10, 3)] := zdcA_ok (by decide +kernel)
theorem dX8_ahead_0 : decode cX8_ahead 0 = .ok (.iload_n 2, 1) := dX8_ahead_r0.1
theorem dX8_ahead_1 : decode cX8_ahead 1 = .ok (.iconst (-1), 1) := dX8_ahead_r0.2.1
theorem dX8_ahead_2 : decode cX8_ahead 2 = .ok (.if_icmp .lt 9, 3) := dX8_ahead_r0.2.2.1
theorem dX8_ahead_5 : decode cX8_ahead 5 = .ok (.iload_n 2, 1) := dX8_ahead_r0.2.2.2.1
theorem dX8_ahead_6 : decode cX8_ahead 6 = .ok (.bipush 6, 2) := dX8_ahead_r0.2.2.2.2.1
theorem dX8_ahead_8 : decode cX8_ahead 8 = .ok (.if_icmp .le 10, 3) := dX8_ahead_r0.2.2.2.2.2.1
theorem dX8_ahead_11 : decode cX8_ahead 11 = .ok (.aload_n 0, 1) := dX8_ahead_r0.2.2.2.2.2.2.1
theorem dX8_ahead_12 : decode cX8_ahead 12 = .ok (.bipush (-5), 2) := dX8_ahead_r0.2.2.2.2.2.2.2.1
theorem dX8_ahead_14 : decode cX8_ahead 14 = .ok (.invokevirtual 115, 3) := dX8_ahead_r0.2.2.2.2.2.2.2.2.1
theorem dX8_ahead_17 : decode cX8_ahead 17 = .ok (.ireturn, 1) := dX8_ahead_r0.2.2.2.2.2.2.2.2.2.1
theorem dX8_ahead_18 : decode cX8_ahead 18 = .ok (.iload_n 1, 1) := dX8_ahead_r0.2.2.2.2.2.2.2.2.2.2.1
theorem dX8_ahead_19 : decode cX8_ahead 19 = .ok (.iconst 1, 1) := dX8_ahead_r0.2.2.2.2.2.2.2.2.2.2.2.1
theorem dX8_ahead_20 : decode cX8_ahead 20 = .ok (.if_icmp .lt 8, 3) := dX8_ahead_r0.2.2.2.2.2.2.2.2.2.2.2.2.1
theorem dX8_ahead_23 : decode cX8_ahead 23 = .ok (.iload_n 1, 1) := dX8_ahead_r0.2.2.2.2.2.2.2.2.2.2.2.2.2.1
theorem dX8_ahead_24 : decode cX8_ahead 24 = .ok (.iconst 4, 1) := dX8_ahead_r0.2.2.2.2.2.2.2.2.2.2.2.2.2.2.1
theorem dX8_ahead_25 : decode cX8_ahead 25 = .ok (.if_icmp .le 10, 3) := dX8_ahead_r0.2.2.2.2.2.2.2.2.2.2.2.2.2.2.2.1
theorem dX8_ahead_r28 : zdcP cX8_ahead 28 [(.aload_n 0, 1), (.bipush (-6), 2), (.invokevirtual 115, 3), (.ireturn, 1), (.aload_n 0, 1), (.getfield 207, 3), (.istore_n 3, 1), (.aload_n 0, 1), (.getfield 210, 3), (.istore 4, 2), (.aload_n 0, 1), (.iconst (-1), 1), (.putfield 229, 3), (.aload_n 0, 1), (.iconst 0, 1), (.iload_n 1, 1)] := zdcA_ok (by decide +kernel)
theorem dX8_ahead_28 : decode cX8_ahead 28 = .ok (.aload_n 0, 1) := dX8_ahead_r28.1
theorem dX8_ahead_29 : decode cX8_ahead 29 = .ok (.bipush (-6), 2) := dX8_ahead_r28.2.1
theorem dX8_ahead_31 : decode cX8_ahead 31 = .ok (.invokevirtual 115, 3) := dX8_ahead_r28.2.2.1
theorem dX8_ahead_34 : decode cX8_ahead 34 = .ok (.ireturn, 1) := dX8_ahead_r28.2.2.2.1
theorem dX8_ahead_35 : decode cX8_ahead 35 = .ok (.aload_n 0, 1) := dX8_ahead_r28.2.2.2.2.1
theorem dX8_ahead_36 : decode cX8_ahead 36 = .ok (.getfield 207, 3) := dX8_ahead_r28.2.2.2.2.2.1
theorem dX8_ahead_39 : decode cX8_ahead 39 = .ok (.istore_n 3, 1) := dX8_ahead_r28.2.2.2.2.2.2.1
theorem dX8_ahead_40 : decode cX8_ahead 40 = .ok (.aload_n 0, 1) := dX8_ahead_r28.2.2.2.2.2.2.2.1
theorem dX8_ahead_41 : decode cX8_ahead 41 = .ok (.getfield 210, 3) := dX8_ahead_r28.2.2.2.2.2.2.2.2.1
theorem dX8_ahead_44 : decode cX8_ahead 44 = .ok (.istore 4, 2) := dX8_ahead_r28.2.2.2.2.2.2.2.2.2.1
theorem dX8_ahead_46 : decode cX8_ahead 46 = .ok (.aload_n 0, 1) := dX8_ahead_r28.2.2.2.2.2.2.2.2.2.2.1
theorem dX8_ahead_47 : decode cX8_ahead 47 = .ok (.iconst (-1), 1) := dX8_ahead_r28.2.2.2.2.2.2.2.2.2.2.2.1
theorem dX8_ahead_48 : decode cX8_ahead 48 = .ok (.putfield 229, 3) := dX8_ahead_r28.2.2.2.2.2.2.2.2.2.2.2.2.1
theorem dX8_ahead_51 : decode cX8_ahead 51 = .ok (.aload_n 0, 1) := dX8_ahead_r28.2.2.2.2.2.2.2.2.2.2.2.2.2.1
theorem dX8_ahead_52 : decode cX8_ahead 52 = .ok (.iconst 0, 1) := dX8_ahead_r28.2.2.2.2.2.2.2.2.2.2.2.2.2.2.1
theorem dX8_ahead_53 : decode cX8_ahead 53 = .ok (.iload_n 1, 1) := dX8_ahead_r28.2.2.2.2.2.2.2.2.2.2.2.2.2.2.2.1
theorem dX8_ahead_r54 : zdcP cX8_ahead 54 [(.aload_n 0, 1), (.invokevirtual 241, 3), (.invokevirtual 244, 3), (.iload_n 2, 1), (.iconst (-1), 1), (.if_icmp .ne 8, 3), (.aload_n 0, 1), (.getfield 229, 3), (.ireturn, 1), (.iload_n 2, 1), (.iconst 4, 1), (.if_icmp .ge 27, 3), (.iload_n 2, 1), (.aload_n 0, 1), (.getfield 229, 3), (.if_icmp .ge 12, 3)] := zdcA_ok (by decide +kernel)
theorem dX8_ahead_54 : decode cX8_ahead 54 = .ok (.aload_n 0, 1) := dX8_ahead_r54.1
theorem dX8_ahead_55 : decode cX8_ahead 55 = .ok (.invokevirtual 241, 3) := dX8_ahead_r54.2.1
theorem dX8_ahead_58 : decode cX8_ahead 58 = .ok (.invokevirtual 244, 3) := dX8_ahead_r54.2.2.1
theorem dX8_ahead_61 : decode cX8_ahead 61 = .ok (.iload_n 2, 1) := dX8_ahead_r54.2.2.2.1
theorem dX8_ahead_62 : decode cX8_ahead 62 = .ok (.iconst (-1), 1) := dX8_ahead_r54.2.2.2.2.1
theorem dX8_ahead_63 : decode cX8_ahead 63 = .ok (.if_icmp .ne 8, 3) := dX8_ahead_r54.2.2.2.2.2.1
theorem dX8_ahead_66 : decode cX8_ahead 66 = .ok (.aload_n 0, 1) := dX8_ahead_r54.2.2.2.2.2.2.1
theorem dX8_ahead_67 : decode cX8_ahead 67 = .ok (.getfield 229, 3) := dX8_ahead_r54.2.2.2.2.2.2.2.1
theorem dX8_ahead_70 : decode cX8_ahead 70 = .ok (.ireturn, 1) := dX8_ahead_r54.2.2.2.2.2.2.2.2.1
theorem dX8_ahead_71 : decode cX8_ahead 71 = .ok (.iload_n 2, 1) := dX8_ahead_r54.2.2.2.2.2.2.2.2.2.1
theorem dX8_ahead_72 : decode cX8_ahead 72 = .ok (.iconst 4, 1) := dX8_ahead_r54.2.2.2.2.2.2.2.2.2.2.1
theorem dX8_ahead_73 : decode cX8_ahead 73 = .ok (.if_icmp .ge 27, 3) := dX8_ahead_r54.2.2.2.2.2.2.2.2.2.2.2.1
theorem dX8_ahead_76 : decode cX8_ahead 76 = .ok (.iload_n 2, 1) := dX8_ahead_r54.2.2.2.2.2.2.2.2.2.2.2.2.1
theorem dX8_ahead_77 : decode cX8_ahead 77 = .ok (.aload_n 0, 1) := dX8_ahead_r54.2.2.2.2.2.2.2.2.2.2.2.2.2.1
theorem dX8_ahead_78 : decode cX8_ahead 78 = .ok (.getfield 229, 3) := dX8_ahead_r54.2.2.2.2.2.2.2.2.2.2.2.2.2.2.1
theorem dX8_ahead_81 : decode cX8_ahead 81 = .ok (.if_icmp .ge 12, 3) := dX8_ahead_r54.2.2.2.2.2.2.2.2.2.2.2.2.2.2.2.1
theorem dX8_ahead_r84 : zdcP cX8_ahead 84 [(.aload_n 0, 1), (.getfield 99, 3), (.iload_n 2, 1), (.iaload, 1), (.goto 9, 3), (.aload_n 0, 1), (.bipush (-5), 2), (.invokevirtual 115, 3), (.ireturn, 1), (.iload_n 2, 1), (.iconst 4, 1), (.if_icmp .ne 12, 3), (.aload_n 0, 1), (.getfield 232, 3), (.iload_n 3, 1), (.isub, 1)] := zdcA_ok (by decide +kernel)
theorem dX8_ahead_84 : decode cX8_ahead 84 = .ok (.aload_n 0, 1) := dX8_ahead_r84.1
theorem dX8_ahead_85 : decode cX8_ahead 85 = .ok (.getfield 99, 3) := dX8_ahead_r84.2.1
theorem dX8_ahead_88 : decode cX8_ahead 88 = .ok (.iload_n 2, 1) := dX8_ahead_r84.2.2.1
theorem dX8_ahead_89 : decode cX8_ahead 89 = .ok (.iaload, 1) := dX8_ahead_r84.2.2.2.1
theorem dX8_ahead_90 : decode cX8_ahead 90 = .ok (.goto 9, 3) := dX8_ahead_r84.2.2.2.2.1
theorem dX8_ahead_93 : decode cX8_ahead 93 = .ok (.aload_n 0, 1) := dX8_ahead_r84.2.2.2.2.2.1
theorem dX8_ahead_94 : decode cX8_ahead 94 = .ok (.bipush (-5), 2) := dX8_ahead_r84.2.2.2.2.2.2.1
theorem dX8_ahead_96 : decode cX8_ahead 96 = .ok (.invokevirtual 115, 3) := dX8_ahead_r84.2.2.2.2.2.2.2.1
theorem dX8_ahead_99 : decode cX8_ahead 99 = .ok (.ireturn, 1) := dX8_ahead_r84.2.2.2.2.2.2.2.2.1
theorem dX8_ahead_100 : decode cX8_ahead 100 = .ok (.iload_n 2, 1) := dX8_ahead_r84.2.2.2.2.2.2.2.2.2.1
theorem dX8_ahead_101 : decode cX8_ahead 101 = .ok (.iconst 4, 1) := dX8_ahead_r84.2.2.2.2.2.2.2.2.2.2.1
theorem dX8_ahead_102 : decode cX8_ahead 102 = .ok (.if_icmp .ne 12, 3) := dX8_ahead_r84.2.2.2.2.2.2.2.2.2.2.2.1
theorem dX8_ahead_105 : decode cX8_ahead 105 = .ok (.aload_n 0, 1) := dX8_ahead_r84.2.2.2.2.2.2.2.2.2.2.2.2.1
theorem dX8_ahead_106 : decode cX8_ahead 106 = .ok (.getfield 232, 3) := dX8_ahead_r84.2.2.2.2.2.2.2.2.2.2.2.2.2.1
theorem dX8_ahead_109 : decode cX8_ahead 109 = .ok (.iload_n 3, 1) := dX8_ahead_r84.2.2.2.2.2.2.2.2.2.2.2.2.2.2.1
theorem dX8_ahead_110 : decode cX8_ahead 110 = .ok (.isub, 1) := dX8_ahead_r84.2.2.2.2.2.2.2.2.2.2.2.2.2.2.2.1
theorem dX8_ahead_r111 : zdcP cX8_ahead 111 [(.goto 22, 3), (.iload_n 2, 1), (.iconst 5, 1), (.if_icmp .ne 10, 3), (.aload_n 0, 1), (.getfield 235, 3), (.goto 10, 3), (.aload_n 0, 1), (.getfield 238, 3), (.iload 4, 2), (.isub, 1), (.ireturn, 1)] := zdcA_ok (by decide +kernel)
theorem dX8_ahead_111 : decode cX8_ahead 111 = .ok (.goto 22, 3) := dX8_ahead_r111.1
theorem dX8_ahead_114 : decode cX8_ahead 114 = .ok (.iload_n 2, 1) := dX8_ahead_r111.2.1
theorem dX8_ahead_115 : decode cX8_ahead 115 = .ok (.iconst 5, 1) := dX8_ahead_r111.2.2.1
theorem dX8_ahead_116 : decode cX8_ahead 116 = .ok (.if_icmp .ne 10, 3) := dX8_ahead_r111.2.2.2.1
theorem dX8_ahead_119 : decode cX8_ahead 119 = .ok (.aload_n 0, 1) := dX8_ahead_r111.2.2.2.2.1
theorem dX8_ahead_120 : decode cX8_ahead 120 = .ok (.getfield 235, 3) := dX8_ahead_r111.2.2.2.2.2.1
theorem dX8_ahead_123 : decode cX8_ahead 123 = .ok (.goto 10, 3) := dX8_ahead_r111.2.2.2.2.2.2.1
theorem dX8_ahead_126 : decode cX8_ahead 126 = .ok (.aload_n 0, 1) := dX8_ahead_r111.2.2.2.2.2.2.2.1
theorem dX8_ahead_127 : decode cX8_ahead 127 = .ok (.getfield 238, 3) := dX8_ahead_r111.2.2.2.2.2.2.2.2.1
theorem dX8_ahead_130 : decode cX8_ahead 130 = .ok (.iload 4, 2) := dX8_ahead_r111.2.2.2.2.2.2.2.2.2.1
theorem dX8_ahead_132 : decode cX8_ahead 132 = .ok (.isub, 1) := dX8_ahead_r111.2.2.2.2.2.2.2.2.2.2.1
theorem dX8_ahead_133 : decode cX8_ahead 133 = .ok (.ireturn, 1) := dX8_ahead_r111.2.2.2.2.2.2.2.2.2.2.2.1
def wp_175 (v1 : Int32) (v2 : Int32) (m : zf_Me) (Q : Int32 → zf_Me → Prop) : Prop := ((v2.toInt < (-1) → wp_125 (-5) m (fun x1 m2 => Q x1 m2)) ∧ (v2.toInt ≥ (-1) → ((v2.toInt ≤ 6 → ((v1.toInt < 1 → wp_125 (-6) m (fun x3 m4 => Q x3 m4)) ∧ (v1.toInt ≥ 1 → ((v1.toInt ≤ 4 → (∀ m5, m5 = zf_u m 63 40 (-1) → wp_170 m5 (fun x7 m8 => (∃ nz9, nz9 ≤ 6 ∧ wp_174 nz9 0 v1 x7 m8 (fun m10 => ((¬ v2.toInt = (-1) → ((v2.toInt ≥ 4 → ((¬ v2.toInt = 4 → ((¬ v2.toInt = 5 → Q ((m10.1 63 43) - (m.1 63 11)) m10) ∧ (v2.toInt = 5 → Q (m10.1 63 42) m10))) ∧ (v2.toInt = 4 → Q ((m10.1 63 41) - (m.1 63 10)) m10))) ∧ (v2.toInt < 4 → ((v2.toInt ≥ ((m10.1 63 40)).toInt → wp_125 (-5) m10 (fun x11 m12 => Q x11 m12)) ∧ (v2.toInt < ((m10.1 63 40)).toInt → ((0 ≤ (Int32.toInt v2) ∧ (Int32.toInt v2) < (4 : Int)) ∧ Q (m10.1 84 (Int32.toInt v2).toNat) m10)))))) ∧ (v2.toInt = (-1) → Q (m10.1 63 40) m10))))))) ∧ (v1.toInt > 4 → wp_125 (-6) m (fun x13 m14 => Q x13 m14)))))) ∧ (v2.toInt > 6 → wp_125 (-5) m (fun x15 m16 => Q x15 m16)))))
theorem zr_175 {d : Nat} (hd : 13 ≤ d) {v1 : Int32} {v2 : Int32} {Q : Int32 → zf_Me → Prop} {m : zf_Me} (h : wp_175 v1 v2 m Q) : zf_M d 175 [.inr (.inr (1, 63)), .inl v1, .inl v2] m (zf_I Q) := by
  obtain ⟨e, rfl⟩ : ∃ z, d = z + 1 := ⟨d - 1, by omega⟩
  unfold wp_175 at h
  refine zf_M_of (Nat.le_of_ble_eq_true rfl) zm_175 (L := [some (.inr (.inr (1, 63))), some (.inl v1), some (.inl v2), none, none]) rfl ?_
  refine zf_ld (pc' := 1) (v := .inl v2) dX8_ahead_0 rfl (fun _ _ _ => rfl) rfl rfl rfl ?_
  refine zf_ic (v := (-1)) (pc' := 2) dX8_ahead_1 rfl rfl ?_
  refine zf_icmp_lt (tgt := 11) (pc' := 5) dX8_ahead_2 rfl rfl (fun g => ?_) (fun g => ?_)
  · replace h := h.1 g
    refine zf_ld (pc' := 12) (v := .inr (.inr (1, 63))) dX8_ahead_11 rfl (fun _ _ _ => rfl) rfl rfl rfl ?_
    refine zf_bi (v := (-5)) (pc' := 14) dX8_ahead_12 rfl rfl ?_
    refine zf_iv (k := 125) (pc' := 17) (r := []) dX8_ahead_14 rfl rfl rfl rfl (by decide) rfl rfl rfl (zr_125 (by omega) h) (zf_kI (fun x1 m2 h => ?_))
    exact zf_ri dX8_ahead_17 rfl h
  · replace h := h.2 g
    refine zf_ld (pc' := 6) (v := .inl v2) dX8_ahead_5 rfl (fun _ _ _ => rfl) rfl rfl rfl ?_
    refine zf_bi (v := 6) (pc' := 8) dX8_ahead_6 rfl rfl ?_
    refine zf_icmp_le (tgt := 18) (pc' := 11) dX8_ahead_8 rfl rfl (fun g => ?_) (fun g => ?_)
    · replace h := h.1 g
      refine zf_ld (pc' := 19) (v := .inl v1) dX8_ahead_18 rfl (fun _ _ _ => rfl) rfl rfl rfl ?_
      refine zf_ic (v := 1) (pc' := 20) dX8_ahead_19 rfl rfl ?_
      refine zf_icmp_lt (tgt := 28) (pc' := 23) dX8_ahead_20 rfl rfl (fun g => ?_) (fun g => ?_)
      · replace h := h.1 g
        refine zf_ld (pc' := 29) (v := .inr (.inr (1, 63))) dX8_ahead_28 rfl (fun _ _ _ => rfl) rfl rfl rfl ?_
        refine zf_bi (v := (-6)) (pc' := 31) dX8_ahead_29 rfl rfl ?_
        refine zf_iv (k := 125) (pc' := 34) (r := []) dX8_ahead_31 rfl rfl rfl rfl (by decide) rfl rfl rfl (zr_125 (by omega) h) (zf_kI (fun x3 m4 h => ?_))
        exact zf_ri dX8_ahead_34 rfl h
      · replace h := h.2 g
        refine zf_ld (pc' := 24) (v := .inl v1) dX8_ahead_23 rfl (fun _ _ _ => rfl) rfl rfl rfl ?_
        refine zf_ic (v := 4) (pc' := 25) dX8_ahead_24 rfl rfl ?_
        refine zf_icmp_le (tgt := 35) (pc' := 28) dX8_ahead_25 rfl rfl (fun g => ?_) (fun g => ?_)
        · replace h := h.1 g
          refine zf_ld (pc' := 36) (v := .inr (.inr (1, 63))) dX8_ahead_35 rfl (fun _ _ _ => rfl) rfl rfl rfl ?_
          refine zf_gfi (pc' := 39) dX8_ahead_36 rfl rfl (by decide) rfl rfl ?_
          refine zf_st (pc' := 40) (L2 := [some (.inr (.inr (1, 63))), some (.inl v1), some (.inl v2), some (.inl (m.1 63 10)), none]) dX8_ahead_39 rfl (fun _ _ _ => rfl) rfl rfl rfl rfl rfl rfl ?_
          refine zf_ld (pc' := 41) (v := .inr (.inr (1, 63))) dX8_ahead_40 rfl (fun _ _ _ => rfl) rfl rfl rfl ?_
          refine zf_gfi (pc' := 44) dX8_ahead_41 rfl rfl (by decide) rfl rfl ?_
          refine zf_st (pc' := 46) (L2 := [some (.inr (.inr (1, 63))), some (.inl v1), some (.inl v2), some (.inl (m.1 63 10)), some (.inl (m.1 63 11))]) dX8_ahead_44 rfl (fun _ _ _ => rfl) rfl rfl rfl rfl rfl rfl ?_
          refine zf_ld (pc' := 47) (v := .inr (.inr (1, 63))) dX8_ahead_46 rfl (fun _ _ _ => rfl) rfl rfl rfl ?_
          refine zf_ic (v := (-1)) (pc' := 48) dX8_ahead_47 rfl rfl ?_
          refine zf_pf (pc' := 51) dX8_ahead_48 rfl rfl (by decide) rfl rfl rfl (fun m5 e6 => ?_)
          replace h := h m5 e6
          refine zf_ld (pc' := 52) (v := .inr (.inr (1, 63))) dX8_ahead_51 rfl (fun _ _ _ => rfl) rfl rfl rfl ?_
          refine zf_ic (v := 0) (pc' := 53) dX8_ahead_52 rfl rfl ?_
          refine zf_ld (pc' := 54) (v := .inl v1) dX8_ahead_53 rfl (fun _ _ _ => rfl) rfl rfl rfl ?_
          refine zf_ld (pc' := 55) (v := .inr (.inr (1, 63))) dX8_ahead_54 rfl (fun _ _ _ => rfl) rfl rfl rfl ?_
          refine zf_iv (k := 170) (pc' := 58) (r := [.inl v1, .inl 0, .inr (.inr (1, 63))]) dX8_ahead_55 rfl rfl rfl rfl (by decide) rfl rfl rfl (zr_170 (by omega) h) (zf_kI (fun x7 m8 h => ?_))
          obtain ⟨nz9, hnz9, h⟩ := h
          refine zf_iv (k := 174) (pc' := 61) (r := []) dX8_ahead_58 rfl rfl rfl rfl (by decide) rfl rfl rfl (zr_174 nz9 (by omega) h) (zf_kO (fun m10 h => ?_))
          refine zf_ld (pc' := 62) (v := .inl v2) dX8_ahead_61 rfl (fun _ _ _ => rfl) rfl rfl rfl ?_
          refine zf_ic (v := (-1)) (pc' := 63) dX8_ahead_62 rfl rfl ?_
          refine zf_icmp_ne (tgt := 71) (pc' := 66) dX8_ahead_63 rfl rfl (fun g => ?_) (fun g => ?_)
          · replace h := h.1 g
            refine zf_ld (pc' := 72) (v := .inl v2) dX8_ahead_71 rfl (fun _ _ _ => rfl) rfl rfl rfl ?_
            refine zf_ic (v := 4) (pc' := 73) dX8_ahead_72 rfl rfl ?_
            refine zf_icmp_ge (tgt := 100) (pc' := 76) dX8_ahead_73 rfl rfl (fun g => ?_) (fun g => ?_)
            · replace h := h.1 g
              refine zf_ld (pc' := 101) (v := .inl v2) dX8_ahead_100 rfl (fun _ _ _ => rfl) rfl rfl rfl ?_
              refine zf_ic (v := 4) (pc' := 102) dX8_ahead_101 rfl rfl ?_
              refine zf_icmp_ne (tgt := 114) (pc' := 105) dX8_ahead_102 rfl rfl (fun g => ?_) (fun g => ?_)
              · replace h := h.1 g
                refine zf_ld (pc' := 115) (v := .inl v2) dX8_ahead_114 rfl (fun _ _ _ => rfl) rfl rfl rfl ?_
                refine zf_ic (v := 5) (pc' := 116) dX8_ahead_115 rfl rfl ?_
                refine zf_icmp_ne (tgt := 126) (pc' := 119) dX8_ahead_116 rfl rfl (fun g => ?_) (fun g => ?_)
                · replace h := h.1 g
                  refine zf_ld (pc' := 127) (v := .inr (.inr (1, 63))) dX8_ahead_126 rfl (fun _ _ _ => rfl) rfl rfl rfl ?_
                  refine zf_gfi (pc' := 130) dX8_ahead_127 rfl rfl (by decide) rfl rfl ?_
                  refine zf_ld (pc' := 132) (v := .inl (m.1 63 11)) dX8_ahead_130 rfl (fun _ _ _ => rfl) rfl rfl rfl ?_
                  refine zf_in (pc' := 133) (S' := [.inl ((m10.1 63 43) - (m.1 63 11))]) dX8_ahead_132 rfl (fun _ _ _ => rfl) ?_
                  exact zf_ri dX8_ahead_133 rfl h
                · replace h := h.2 g
                  refine zf_ld (pc' := 120) (v := .inr (.inr (1, 63))) dX8_ahead_119 rfl (fun _ _ _ => rfl) rfl rfl rfl ?_
                  refine zf_gfi (pc' := 123) dX8_ahead_120 rfl rfl (by decide) rfl rfl ?_
                  refine zf_goto (tgt := 133) dX8_ahead_123 rfl ?_
                  exact zf_ri dX8_ahead_133 rfl h
              · replace h := h.2 g
                refine zf_ld (pc' := 106) (v := .inr (.inr (1, 63))) dX8_ahead_105 rfl (fun _ _ _ => rfl) rfl rfl rfl ?_
                refine zf_gfi (pc' := 109) dX8_ahead_106 rfl rfl (by decide) rfl rfl ?_
                refine zf_ld (pc' := 110) (v := .inl (m.1 63 10)) dX8_ahead_109 rfl (fun _ _ _ => rfl) rfl rfl rfl ?_
                refine zf_in (pc' := 111) (S' := [.inl ((m10.1 63 41) - (m.1 63 10))]) dX8_ahead_110 rfl (fun _ _ _ => rfl) ?_
                refine zf_goto (tgt := 133) dX8_ahead_111 rfl ?_
                exact zf_ri dX8_ahead_133 rfl h
            · replace h := h.2 g
              refine zf_ld (pc' := 77) (v := .inl v2) dX8_ahead_76 rfl (fun _ _ _ => rfl) rfl rfl rfl ?_
              refine zf_ld (pc' := 78) (v := .inr (.inr (1, 63))) dX8_ahead_77 rfl (fun _ _ _ => rfl) rfl rfl rfl ?_
              refine zf_gfi (pc' := 81) dX8_ahead_78 rfl rfl (by decide) rfl rfl ?_
              refine zf_icmp_ge (tgt := 93) (pc' := 84) dX8_ahead_81 rfl rfl (fun g => ?_) (fun g => ?_)
              · replace h := h.1 g
                refine zf_ld (pc' := 94) (v := .inr (.inr (1, 63))) dX8_ahead_93 rfl (fun _ _ _ => rfl) rfl rfl rfl ?_
                refine zf_bi (v := (-5)) (pc' := 96) dX8_ahead_94 rfl rfl ?_
                refine zf_iv (k := 125) (pc' := 99) (r := []) dX8_ahead_96 rfl rfl rfl rfl (by decide) rfl rfl rfl (zr_125 (by omega) h) (zf_kI (fun x11 m12 h => ?_))
                exact zf_ri dX8_ahead_99 rfl h
              · replace h := h.2 g
                refine zf_ld (pc' := 85) (v := .inr (.inr (1, 63))) dX8_ahead_84 rfl (fun _ _ _ => rfl) rfl rfl rfl ?_
                refine zf_gfr (pc' := 88) (b := 84) dX8_ahead_85 rfl rfl (by decide) rfl rfl ?_
                refine zf_ld (pc' := 89) (v := .inl v2) dX8_ahead_88 rfl (fun _ _ _ => rfl) rfl rfl rfl ?_
                refine zf_ial (pc' := 90) dX8_ahead_89 rfl (⟨by decide, rfl⟩ : zf_arr 84 4).1 (⟨by decide, rfl⟩ : zf_arr 84 4).2 h.1 rfl ?_
                replace h := h.2
                refine zf_goto (tgt := 99) dX8_ahead_90 rfl ?_
                exact zf_ri dX8_ahead_99 rfl h
          · replace h := h.2 g
            refine zf_ld (pc' := 67) (v := .inr (.inr (1, 63))) dX8_ahead_66 rfl (fun _ _ _ => rfl) rfl rfl rfl ?_
            refine zf_gfi (pc' := 70) dX8_ahead_67 rfl rfl (by decide) rfl rfl ?_
            exact zf_ri dX8_ahead_70 rfl h
        · replace h := h.2 g
          refine zf_ld (pc' := 29) (v := .inr (.inr (1, 63))) dX8_ahead_28 rfl (fun _ _ _ => rfl) rfl rfl rfl ?_
          refine zf_bi (v := (-6)) (pc' := 31) dX8_ahead_29 rfl rfl ?_
          refine zf_iv (k := 125) (pc' := 34) (r := []) dX8_ahead_31 rfl rfl rfl rfl (by decide) rfl rfl rfl (zr_125 (by omega) h) (zf_kI (fun x13 m14 h => ?_))
          exact zf_ri dX8_ahead_34 rfl h
    · replace h := h.2 g
      refine zf_ld (pc' := 12) (v := .inr (.inr (1, 63))) dX8_ahead_11 rfl (fun _ _ _ => rfl) rfl rfl rfl ?_
      refine zf_bi (v := (-5)) (pc' := 14) dX8_ahead_12 rfl rfl ?_
      refine zf_iv (k := 125) (pc' := 17) (r := []) dX8_ahead_14 rfl rfl rfl rfl (by decide) rfl rfl rfl (zr_125 (by omega) h) (zf_kI (fun x15 m16 h => ?_))
      exact zf_ri dX8_ahead_17 rfl h
