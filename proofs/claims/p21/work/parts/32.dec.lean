/-! part 32: methods 89..: laid by wip/flat/dec.py -/
def zt_89 : zx_MT := (7, yX7_best, cX7_best, 7, (some FieldType.int), 1, 0)
theorem zm_89 : zx_m 89 = zt_89 := rfl
theorem dX7_best_r0 : zdcP cX7_best 0 [(.iload_n 1, 1), (.ifCond .lt 8, 3), (.iload_n 1, 1), (.iconst 1, 1), (.if_icmp .le 9, 3), (.aload_n 0, 1), (.iconst 5, 1), (.invokevirtual 82, 3), (.ireturn, 1), (.iconst 0, 1), (.istore_n 2, 1), (.iconst (-1), 1), (.istore_n 3, 1), (.iconst 0, 1), (.istore 4, 2), (.iconst 0, 1)] := zdcA_ok (by decide +kernel)
theorem dX7_best_0 : decode cX7_best 0 = .ok (.iload_n 1, 1) := dX7_best_r0.1
theorem dX7_best_1 : decode cX7_best 1 = .ok (.ifCond .lt 8, 3) := dX7_best_r0.2.1
theorem dX7_best_4 : decode cX7_best 4 = .ok (.iload_n 1, 1) := dX7_best_r0.2.2.1
theorem dX7_best_5 : decode cX7_best 5 = .ok (.iconst 1, 1) := dX7_best_r0.2.2.2.1
theorem dX7_best_6 : decode cX7_best 6 = .ok (.if_icmp .le 9, 3) := dX7_best_r0.2.2.2.2.1
theorem dX7_best_9 : decode cX7_best 9 = .ok (.aload_n 0, 1) := dX7_best_r0.2.2.2.2.2.1
theorem dX7_best_10 : decode cX7_best 10 = .ok (.iconst 5, 1) := dX7_best_r0.2.2.2.2.2.2.1
theorem dX7_best_11 : decode cX7_best 11 = .ok (.invokevirtual 82, 3) := dX7_best_r0.2.2.2.2.2.2.2.1
theorem dX7_best_14 : decode cX7_best 14 = .ok (.ireturn, 1) := dX7_best_r0.2.2.2.2.2.2.2.2.1
theorem dX7_best_15 : decode cX7_best 15 = .ok (.iconst 0, 1) := dX7_best_r0.2.2.2.2.2.2.2.2.2.1
theorem dX7_best_16 : decode cX7_best 16 = .ok (.istore_n 2, 1) := dX7_best_r0.2.2.2.2.2.2.2.2.2.2.1
theorem dX7_best_17 : decode cX7_best 17 = .ok (.iconst (-1), 1) := dX7_best_r0.2.2.2.2.2.2.2.2.2.2.2.1
theorem dX7_best_18 : decode cX7_best 18 = .ok (.istore_n 3, 1) := dX7_best_r0.2.2.2.2.2.2.2.2.2.2.2.2.1
theorem dX7_best_19 : decode cX7_best 19 = .ok (.iconst 0, 1) := dX7_best_r0.2.2.2.2.2.2.2.2.2.2.2.2.2.1
theorem dX7_best_20 : decode cX7_best 20 = .ok (.istore 4, 2) := dX7_best_r0.2.2.2.2.2.2.2.2.2.2.2.2.2.2.1
theorem dX7_best_22 : decode cX7_best 22 = .ok (.iconst 0, 1) := dX7_best_r0.2.2.2.2.2.2.2.2.2.2.2.2.2.2.2.1
theorem dX7_best_r23 : zdcP cX7_best 23 [(.istore 5, 2), (.iload 5, 2), (.iconst 4, 1), (.if_icmp .ge 94, 3), (.aload_n 0, 1), (.getfield 40, 3), (.aload_n 0, 1), (.getfield 23, 3), (.invokevirtual 239, 3), (.aload_n 0, 1), (.getfield 40, 3), (.iload 5, 2), (.invokevirtual 242, 3), (.iload_n 1, 1), (.ifCond .ne 13, 3), (.aload_n 0, 1)] := zdcA_ok (by decide +kernel)
theorem dX7_best_23 : decode cX7_best 23 = .ok (.istore 5, 2) := dX7_best_r23.1
theorem dX7_best_25 : decode cX7_best 25 = .ok (.iload 5, 2) := dX7_best_r23.2.1
theorem dX7_best_27 : decode cX7_best 27 = .ok (.iconst 4, 1) := dX7_best_r23.2.2.1
theorem dX7_best_28 : decode cX7_best 28 = .ok (.if_icmp .ge 94, 3) := dX7_best_r23.2.2.2.1
theorem dX7_best_31 : decode cX7_best 31 = .ok (.aload_n 0, 1) := dX7_best_r23.2.2.2.2.1
theorem dX7_best_32 : decode cX7_best 32 = .ok (.getfield 40, 3) := dX7_best_r23.2.2.2.2.2.1
theorem dX7_best_35 : decode cX7_best 35 = .ok (.aload_n 0, 1) := dX7_best_r23.2.2.2.2.2.2.1
theorem dX7_best_36 : decode cX7_best 36 = .ok (.getfield 23, 3) := dX7_best_r23.2.2.2.2.2.2.2.1
theorem dX7_best_39 : decode cX7_best 39 = .ok (.invokevirtual 239, 3) := dX7_best_r23.2.2.2.2.2.2.2.2.1
theorem dX7_best_42 : decode cX7_best 42 = .ok (.aload_n 0, 1) := dX7_best_r23.2.2.2.2.2.2.2.2.2.1
theorem dX7_best_43 : decode cX7_best 43 = .ok (.getfield 40, 3) := dX7_best_r23.2.2.2.2.2.2.2.2.2.2.1
theorem dX7_best_46 : decode cX7_best 46 = .ok (.iload 5, 2) := dX7_best_r23.2.2.2.2.2.2.2.2.2.2.2.1
theorem dX7_best_48 : decode cX7_best 48 = .ok (.invokevirtual 242, 3) := dX7_best_r23.2.2.2.2.2.2.2.2.2.2.2.2.1
theorem dX7_best_51 : decode cX7_best 51 = .ok (.iload_n 1, 1) := dX7_best_r23.2.2.2.2.2.2.2.2.2.2.2.2.2.1
theorem dX7_best_52 : decode cX7_best 52 = .ok (.ifCond .ne 13, 3) := dX7_best_r23.2.2.2.2.2.2.2.2.2.2.2.2.2.2.1
theorem dX7_best_55 : decode cX7_best 55 = .ok (.aload_n 0, 1) := dX7_best_r23.2.2.2.2.2.2.2.2.2.2.2.2.2.2.2.1
theorem dX7_best_r56 : zdcP cX7_best 56 [(.getfield 40, 3), (.getfield 247, 3), (.goto 13, 3), (.aload_n 0, 1), (.getfield 40, 3), (.getfield 246, 3), (.getfield 230, 3), (.istore 6, 2), (.aload_n 0, 1), (.getfield 40, 3), (.getfield 246, 3), (.getfield 221, 3), (.iload 6, 2), (.iload_n 3, 1), (.iload 4, 2), (.invokestatic 253, 3)] := zdcA_ok (by decide +kernel)
theorem dX7_best_56 : decode cX7_best 56 = .ok (.getfield 40, 3) := dX7_best_r56.1
theorem dX7_best_59 : decode cX7_best 59 = .ok (.getfield 247, 3) := dX7_best_r56.2.1
theorem dX7_best_62 : decode cX7_best 62 = .ok (.goto 13, 3) := dX7_best_r56.2.2.1
theorem dX7_best_65 : decode cX7_best 65 = .ok (.aload_n 0, 1) := dX7_best_r56.2.2.2.1
theorem dX7_best_66 : decode cX7_best 66 = .ok (.getfield 40, 3) := dX7_best_r56.2.2.2.2.1
theorem dX7_best_69 : decode cX7_best 69 = .ok (.getfield 246, 3) := dX7_best_r56.2.2.2.2.2.1
theorem dX7_best_72 : decode cX7_best 72 = .ok (.getfield 230, 3) := dX7_best_r56.2.2.2.2.2.2.1
theorem dX7_best_75 : decode cX7_best 75 = .ok (.istore 6, 2) := dX7_best_r56.2.2.2.2.2.2.2.1
theorem dX7_best_77 : decode cX7_best 77 = .ok (.aload_n 0, 1) := dX7_best_r56.2.2.2.2.2.2.2.2.1
theorem dX7_best_78 : decode cX7_best 78 = .ok (.getfield 40, 3) := dX7_best_r56.2.2.2.2.2.2.2.2.2.1
theorem dX7_best_81 : decode cX7_best 81 = .ok (.getfield 246, 3) := dX7_best_r56.2.2.2.2.2.2.2.2.2.2.1
theorem dX7_best_84 : decode cX7_best 84 = .ok (.getfield 221, 3) := dX7_best_r56.2.2.2.2.2.2.2.2.2.2.2.1
theorem dX7_best_87 : decode cX7_best 87 = .ok (.iload 6, 2) := dX7_best_r56.2.2.2.2.2.2.2.2.2.2.2.2.1
theorem dX7_best_89 : decode cX7_best 89 = .ok (.iload_n 3, 1) := dX7_best_r56.2.2.2.2.2.2.2.2.2.2.2.2.2.1
theorem dX7_best_90 : decode cX7_best 90 = .ok (.iload 4, 2) := dX7_best_r56.2.2.2.2.2.2.2.2.2.2.2.2.2.2.1
theorem dX7_best_92 : decode cX7_best 92 = .ok (.invokestatic 253, 3) := dX7_best_r56.2.2.2.2.2.2.2.2.2.2.2.2.2.2.2.1
theorem dX7_best_r95 : zdcP cX7_best 95 [(.ifCond .eq 21, 3), (.iload 5, 2), (.istore_n 2, 1), (.aload_n 0, 1), (.getfield 40, 3), (.getfield 246, 3), (.getfield 221, 3), (.istore_n 3, 1), (.iload 6, 2), (.istore 4, 2), (.iinc 5 1, 3), (.goto (-94), 3), (.iload_n 2, 1), (.ireturn, 1)] := zdcA_ok (by decide +kernel)
theorem dX7_best_95 : decode cX7_best 95 = .ok (.ifCond .eq 21, 3) := dX7_best_r95.1
theorem dX7_best_98 : decode cX7_best 98 = .ok (.iload 5, 2) := dX7_best_r95.2.1
theorem dX7_best_100 : decode cX7_best 100 = .ok (.istore_n 2, 1) := dX7_best_r95.2.2.1
theorem dX7_best_101 : decode cX7_best 101 = .ok (.aload_n 0, 1) := dX7_best_r95.2.2.2.1
theorem dX7_best_102 : decode cX7_best 102 = .ok (.getfield 40, 3) := dX7_best_r95.2.2.2.2.1
theorem dX7_best_105 : decode cX7_best 105 = .ok (.getfield 246, 3) := dX7_best_r95.2.2.2.2.2.1
theorem dX7_best_108 : decode cX7_best 108 = .ok (.getfield 221, 3) := dX7_best_r95.2.2.2.2.2.2.1
theorem dX7_best_111 : decode cX7_best 111 = .ok (.istore_n 3, 1) := dX7_best_r95.2.2.2.2.2.2.2.1
theorem dX7_best_112 : decode cX7_best 112 = .ok (.iload 6, 2) := dX7_best_r95.2.2.2.2.2.2.2.2.1
theorem dX7_best_114 : decode cX7_best 114 = .ok (.istore 4, 2) := dX7_best_r95.2.2.2.2.2.2.2.2.2.1
theorem dX7_best_116 : decode cX7_best 116 = .ok (.iinc 5 1, 3) := dX7_best_r95.2.2.2.2.2.2.2.2.2.2.1
theorem dX7_best_119 : decode cX7_best 119 = .ok (.goto (-94), 3) := dX7_best_r95.2.2.2.2.2.2.2.2.2.2.2.1
theorem dX7_best_122 : decode cX7_best 122 = .ok (.iload_n 2, 1) := dX7_best_r95.2.2.2.2.2.2.2.2.2.2.2.2.1
theorem dX7_best_123 : decode cX7_best 123 = .ok (.ireturn, 1) := dX7_best_r95.2.2.2.2.2.2.2.2.2.2.2.2.2.1
def wq_89_75 (v1 : Int32) (F25 : Int32 → Int32 → Int32 → Int32 → zf_Me → Prop) (v2 : Int32) (v3 : Int32) (v4 : Int32) (v5 : Int32) (u0 : Int32) (m : zf_Me) (Q : Int32 → zf_Me → Prop) : Prop := wp_119 (m.1 19 10) u0 v3 v4 m (fun b7 m8 => ((b7 = false → F25 v2 v3 v4 (v5 + 1) m8) ∧ (b7 = true → F25 v5 (m8.1 19 10) u0 (v5 + 1) m8)))
theorem zq_89_75 {d : Nat} (hd : 6 ≤ d) {v1 : Int32} {F25 : Int32 → Int32 → Int32 → Int32 → zf_Me → Prop} {Q : Int32 → zf_Me → Prop} (hF25 : ∀ (v2 : Int32) (v3 : Int32) (v4 : Int32) (v5 : Int32) (m : zf_Me), F25 v2 v3 v4 v5 m → zf_W none 0 0 d zt_89 25 [some (.inr (.inr (1, 0))), some (.inl v1), some (.inl v2), some (.inl v3), some (.inl v4), some (.inl v5), none] [] m (zf_I Q)) {v2 : Int32} {v3 : Int32} {v4 : Int32} {v5 : Int32} {u0 : Int32} {m : zf_Me} (h : wq_89_75 v1 F25 v2 v3 v4 v5 u0 m Q) : zf_W none 0 0 d zt_89 75 [some (.inr (.inr (1, 0))), some (.inl v1), some (.inl v2), some (.inl v3), some (.inl v4), some (.inl v5), none] [.inl u0] m (zf_I Q) := by
  obtain ⟨e, rfl⟩ : ∃ z, d = z + 1 := ⟨d - 1, by omega⟩
  unfold wq_89_75 at h
  refine zf_st (pc' := 77) (L2 := [some (.inr (.inr (1, 0))), some (.inl v1), some (.inl v2), some (.inl v3), some (.inl v4), some (.inl v5), some (.inl u0)]) dX7_best_75 rfl (fun _ _ _ => rfl) rfl rfl rfl rfl rfl rfl ?_
  refine zf_ld (pc' := 78) (v := .inr (.inr (1, 0))) dX7_best_77 rfl (fun _ _ _ => rfl) rfl rfl rfl ?_
  refine zf_gfr (pc' := 81) (b := 18) dX7_best_78 rfl rfl (by decide) rfl rfl ?_
  refine zf_gfr (pc' := 84) (b := 19) dX7_best_81 rfl rfl (by decide) rfl rfl ?_
  refine zf_gfi (pc' := 87) dX7_best_84 rfl rfl zf_walk19.1 zf_walk19.2.1 rfl ?_
  refine zf_ld (pc' := 89) (v := .inl u0) dX7_best_87 rfl (fun _ _ _ => rfl) rfl rfl rfl ?_
  refine zf_ld (pc' := 90) (v := .inl v3) dX7_best_89 rfl (fun _ _ _ => rfl) rfl rfl rfl ?_
  refine zf_ld (pc' := 92) (v := .inl v4) dX7_best_90 rfl (fun _ _ _ => rfl) rfl rfl rfl ?_
  refine zf_is (k := 119) (pc' := 95) (r := []) dX7_best_92 rfl rfl rfl rfl rfl (zr_119 (by omega) h) (zf_kB (fun b7 m8 h => ?_))
  refine zf_ib_eq (tgt := 116) (pc' := 98) dX7_best_95 rfl rfl (fun g => ?_) (fun g => ?_)
  · replace h := h.1 g
    refine zf_ii (y := (v5 + 1)) (L2 := [some (.inr (.inr (1, 0))), some (.inl v1), some (.inl v2), some (.inl v3), some (.inl v4), some (.inl (v5 + 1)), some (.inl u0)]) (pc' := 119) dX7_best_116 rfl rfl rfl rfl rfl ?_
    refine zf_goto (tgt := 25) dX7_best_119 rfl ?_
    exact zf_lo (hF25 _ _ _ _ _ h) ⟨rfl, rfl, rfl, rfl, rfl, rfl, trivial⟩
  · replace h := h.2 g
    refine zf_ld (pc' := 100) (v := .inl v5) dX7_best_98 rfl (fun _ _ _ => rfl) rfl rfl rfl ?_
    refine zf_st (pc' := 101) (L2 := [some (.inr (.inr (1, 0))), some (.inl v1), some (.inl v5), some (.inl v3), some (.inl v4), some (.inl v5), some (.inl u0)]) dX7_best_100 rfl (fun _ _ _ => rfl) rfl rfl rfl rfl rfl rfl ?_
    refine zf_ld (pc' := 102) (v := .inr (.inr (1, 0))) dX7_best_101 rfl (fun _ _ _ => rfl) rfl rfl rfl ?_
    refine zf_gfr (pc' := 105) (b := 18) dX7_best_102 rfl rfl (by decide) rfl rfl ?_
    refine zf_gfr (pc' := 108) (b := 19) dX7_best_105 rfl rfl (by decide) rfl rfl ?_
    refine zf_gfi (pc' := 111) dX7_best_108 rfl rfl zf_walk19.1 zf_walk19.2.1 rfl ?_
    refine zf_st (pc' := 112) (L2 := [some (.inr (.inr (1, 0))), some (.inl v1), some (.inl v5), some (.inl (m8.1 19 10)), some (.inl v4), some (.inl v5), some (.inl u0)]) dX7_best_111 rfl (fun _ _ _ => rfl) rfl rfl rfl rfl rfl rfl ?_
    refine zf_ld (pc' := 114) (v := .inl u0) dX7_best_112 rfl (fun _ _ _ => rfl) rfl rfl rfl ?_
    refine zf_st (pc' := 116) (L2 := [some (.inr (.inr (1, 0))), some (.inl v1), some (.inl v5), some (.inl (m8.1 19 10)), some (.inl u0), some (.inl v5), some (.inl u0)]) dX7_best_114 rfl (fun _ _ _ => rfl) rfl rfl rfl rfl rfl rfl ?_
    refine zf_ii (y := (v5 + 1)) (L2 := [some (.inr (.inr (1, 0))), some (.inl v1), some (.inl v5), some (.inl (m8.1 19 10)), some (.inl u0), some (.inl (v5 + 1)), some (.inl u0)]) (pc' := 119) dX7_best_116 rfl rfl rfl rfl rfl ?_
    refine zf_goto (tgt := 25) dX7_best_119 rfl ?_
    exact zf_lo (hF25 _ _ _ _ _ h) ⟨rfl, rfl, rfl, rfl, rfl, rfl, trivial⟩
def wq_89_25 (v1 : Int32) (Q : Int32 → zf_Me → Prop) : Nat → Int32 → Int32 → Int32 → Int32 → zf_Me → Prop
  | 0, _, _, _, _, _ => False
  | n + 1, v2, v3, v4, v5, m => ((v5.toInt ≥ 4 → Q v2 m) ∧ (v5.toInt < 4 → wp_7 2 3 8 m (fun m4 => wp_8 v5 m4 (fun m6 => ((¬ v1.toInt = 0 → wq_89_75 v1 (wq_89_25 v1 Q n) v2 v3 v4 v5 (m6.1 19 11) m6 Q) ∧ (v1.toInt = 0 → wq_89_75 v1 (wq_89_25 v1 Q n) v2 v3 v4 v5 (m6.1 18 3) m6 Q))))))
theorem zq_89_25 {d : Nat} (hd : 6 ≤ d) {v1 : Int32} {Q : Int32 → zf_Me → Prop} : ∀ (n : Nat) (v2 : Int32) (v3 : Int32) (v4 : Int32) (v5 : Int32) (m : zf_Me), wq_89_25 v1 Q n v2 v3 v4 v5 m → zf_W none 0 0 d zt_89 25 [some (.inr (.inr (1, 0))), some (.inl v1), some (.inl v2), some (.inl v3), some (.inl v4), some (.inl v5), none] [] m (zf_I Q) := by
  obtain ⟨e, rfl⟩ : ∃ z, d = z + 1 := ⟨d - 1, by omega⟩
  intro n
  induction n with
  | zero =>
    intro v2 v3 v4 v5 m h
    exact h.elim
  | succ n ih =>
    intro v2 v3 v4 v5 m h
    unfold wq_89_25 at h
    refine zf_ld (pc' := 27) (v := .inl v5) dX7_best_25 rfl (fun _ _ _ => rfl) rfl rfl rfl ?_
    refine zf_ic (v := 4) (pc' := 28) dX7_best_27 rfl rfl ?_
    refine zf_icmp_ge (tgt := 122) (pc' := 31) dX7_best_28 rfl rfl (fun g => ?_) (fun g => ?_)
    · replace h := h.1 g
      refine zf_ld (pc' := 123) (v := .inl v2) dX7_best_122 rfl (fun _ _ _ => rfl) rfl rfl rfl ?_
      exact zf_ri dX7_best_123 rfl h
    · replace h := h.2 g
      refine zf_ld (pc' := 32) (v := .inr (.inr (1, 0))) dX7_best_31 rfl (fun _ _ _ => rfl) rfl rfl rfl ?_
      refine zf_gfr (pc' := 35) (b := 18) dX7_best_32 rfl rfl (by decide) rfl rfl ?_
      refine zf_ld (pc' := 36) (v := .inr (.inr (1, 0))) dX7_best_35 rfl (fun _ _ _ => rfl) rfl rfl rfl ?_
      refine zf_gfr (pc' := 39) (b := 2) dX7_best_36 rfl rfl (by decide) rfl rfl ?_
      refine zf_iv (k := 7) (pc' := 42) (r := []) dX7_best_39 rfl rfl rfl rfl (by decide) rfl rfl rfl (zr_7 (by omega) zf_walk2 h) (zf_kO (fun m4 h => ?_))
      refine zf_ld (pc' := 43) (v := .inr (.inr (1, 0))) dX7_best_42 rfl (fun _ _ _ => rfl) rfl rfl rfl ?_
      refine zf_gfr (pc' := 46) (b := 18) dX7_best_43 rfl rfl (by decide) rfl rfl ?_
      refine zf_ld (pc' := 48) (v := .inl v5) dX7_best_46 rfl (fun _ _ _ => rfl) rfl rfl rfl ?_
      refine zf_iv (k := 8) (pc' := 51) (r := []) dX7_best_48 rfl rfl rfl rfl (by decide) rfl rfl rfl (zr_8 (by omega) h) (zf_kO (fun m6 h => ?_))
      refine zf_ld (pc' := 52) (v := .inl v1) dX7_best_51 rfl (fun _ _ _ => rfl) rfl rfl rfl ?_
      refine zf_if_ne (tgt := 65) (pc' := 55) dX7_best_52 rfl rfl (fun g => ?_) (fun g => ?_)
      · replace h := h.1 g
        refine zf_ld (pc' := 66) (v := .inr (.inr (1, 0))) dX7_best_65 rfl (fun _ _ _ => rfl) rfl rfl rfl ?_
        refine zf_gfr (pc' := 69) (b := 18) dX7_best_66 rfl rfl (by decide) rfl rfl ?_
        refine zf_gfr (pc' := 72) (b := 19) dX7_best_69 rfl rfl (by decide) rfl rfl ?_
        refine zf_gfi (pc' := 75) dX7_best_72 rfl rfl zf_walk19.1 zf_walk19.2.1 rfl ?_
        exact zf_lo (zq_89_75 (by omega) ih h) ⟨rfl, rfl, rfl, rfl, rfl, rfl, trivial⟩
      · replace h := h.2 g
        refine zf_ld (pc' := 56) (v := .inr (.inr (1, 0))) dX7_best_55 rfl (fun _ _ _ => rfl) rfl rfl rfl ?_
        refine zf_gfr (pc' := 59) (b := 18) dX7_best_56 rfl rfl (by decide) rfl rfl ?_
        refine zf_gfi (pc' := 62) dX7_best_59 rfl rfl (by decide) rfl rfl ?_
        refine zf_goto (tgt := 75) dX7_best_62 rfl ?_
        exact zf_lo (zq_89_75 (by omega) ih h) ⟨rfl, rfl, rfl, rfl, rfl, rfl, trivial⟩
def wp_89 (v1 : Int32) (m : zf_Me) (Q : Int32 → zf_Me → Prop) : Prop := ((v1.toInt < 0 → wp_109 5 m (fun x1 m2 => Q x1 m2)) ∧ (v1.toInt ≥ 0 → ((v1.toInt ≤ 1 → (∃ n25, wq_89_25 v1 Q n25 0 (-1) 0 0 m)) ∧ (v1.toInt > 1 → wp_109 5 m (fun x9 m10 => Q x9 m10)))))
theorem zr_89 {d : Nat} (hd : 6 ≤ d) {v1 : Int32} {Q : Int32 → zf_Me → Prop} {m : zf_Me} (h : wp_89 v1 m Q) : zf_M d 89 [.inr (.inr (1, 0)), .inl v1] m (zf_I Q) := by
  obtain ⟨e, rfl⟩ : ∃ z, d = z + 1 := ⟨d - 1, by omega⟩
  unfold wp_89 at h
  refine zf_M_of (Nat.le_of_ble_eq_true rfl) zm_89 (L := [some (.inr (.inr (1, 0))), some (.inl v1), none, none, none, none, none]) rfl ?_
  refine zf_ld (pc' := 1) (v := .inl v1) dX7_best_0 rfl (fun _ _ _ => rfl) rfl rfl rfl ?_
  refine zf_if_lt (tgt := 9) (pc' := 4) dX7_best_1 rfl rfl (fun g => ?_) (fun g => ?_)
  · replace h := h.1 g
    refine zf_ld (pc' := 10) (v := .inr (.inr (1, 0))) dX7_best_9 rfl (fun _ _ _ => rfl) rfl rfl rfl ?_
    refine zf_ic (v := 5) (pc' := 11) dX7_best_10 rfl rfl ?_
    refine zf_iv (k := 109) (pc' := 14) (r := []) dX7_best_11 rfl rfl rfl rfl (by decide) rfl rfl rfl (zr_109 (by omega) h) (zf_kI (fun x1 m2 h => ?_))
    exact zf_ri dX7_best_14 rfl h
  · replace h := h.2 g
    refine zf_ld (pc' := 5) (v := .inl v1) dX7_best_4 rfl (fun _ _ _ => rfl) rfl rfl rfl ?_
    refine zf_ic (v := 1) (pc' := 6) dX7_best_5 rfl rfl ?_
    refine zf_icmp_le (tgt := 15) (pc' := 9) dX7_best_6 rfl rfl (fun g => ?_) (fun g => ?_)
    · replace h := h.1 g
      refine zf_ic (v := 0) (pc' := 16) dX7_best_15 rfl rfl ?_
      refine zf_st (pc' := 17) (L2 := [some (.inr (.inr (1, 0))), some (.inl v1), some (.inl 0), none, none, none, none]) dX7_best_16 rfl (fun _ _ _ => rfl) rfl rfl rfl rfl rfl rfl ?_
      refine zf_ic (v := (-1)) (pc' := 18) dX7_best_17 rfl rfl ?_
      refine zf_st (pc' := 19) (L2 := [some (.inr (.inr (1, 0))), some (.inl v1), some (.inl 0), some (.inl (-1)), none, none, none]) dX7_best_18 rfl (fun _ _ _ => rfl) rfl rfl rfl rfl rfl rfl ?_
      refine zf_ic (v := 0) (pc' := 20) dX7_best_19 rfl rfl ?_
      refine zf_st (pc' := 22) (L2 := [some (.inr (.inr (1, 0))), some (.inl v1), some (.inl 0), some (.inl (-1)), some (.inl 0), none, none]) dX7_best_20 rfl (fun _ _ _ => rfl) rfl rfl rfl rfl rfl rfl ?_
      refine zf_ic (v := 0) (pc' := 23) dX7_best_22 rfl rfl ?_
      refine zf_st (pc' := 25) (L2 := [some (.inr (.inr (1, 0))), some (.inl v1), some (.inl 0), some (.inl (-1)), some (.inl 0), some (.inl 0), none]) dX7_best_23 rfl (fun _ _ _ => rfl) rfl rfl rfl rfl rfl rfl ?_
      obtain ⟨n25, h⟩ := h
      exact zf_lo (zq_89_25 (by omega) n25 _ _ _ _ _ h) ⟨rfl, rfl, rfl, rfl, rfl, rfl, trivial⟩
    · replace h := h.2 g
      refine zf_ld (pc' := 10) (v := .inr (.inr (1, 0))) dX7_best_9 rfl (fun _ _ _ => rfl) rfl rfl rfl ?_
      refine zf_ic (v := 5) (pc' := 11) dX7_best_10 rfl rfl ?_
      refine zf_iv (k := 109) (pc' := 14) (r := []) dX7_best_11 rfl rfl rfl rfl (by decide) rfl rfl rfl (zr_109 (by omega) h) (zf_kI (fun x9 m10 h => ?_))
      exact zf_ri dX7_best_14 rfl h
def zt_90 : zx_MT := (7, yX7_whose, cX7_whose, 5, (some FieldType.int), 1, 0)
theorem zm_90 : zx_m 90 = zt_90 := rfl
theorem dX7_whose_r0 : zdcP cX7_whose 0 [(.aload_n 0, 1), (.getfield 23, 3), (.getfield 30, 3), (.iload_n 1, 1), (.invokevirtual 159, 3), (.ifCond .eq 16, 3), (.aload_n 0, 1), (.getfield 23, 3), (.getfield 30, 3), (.getfield 153, 3), (.ifCond .ne 9, 3), (.aload_n 0, 1), (.iconst 5, 1), (.invokevirtual 82, 3), (.ireturn, 1), (.aload_n 0, 1)] := zdcA_ok (by decide +kernel)
theorem dX7_whose_0 : decode cX7_whose 0 = .ok (.aload_n 0, 1) := dX7_whose_r0.1
theorem dX7_whose_1 : decode cX7_whose 1 = .ok (.getfield 23, 3) := dX7_whose_r0.2.1
theorem dX7_whose_4 : decode cX7_whose 4 = .ok (.getfield 30, 3) := dX7_whose_r0.2.2.1
theorem dX7_whose_7 : decode cX7_whose 7 = .ok (.iload_n 1, 1) := dX7_whose_r0.2.2.2.1
theorem dX7_whose_8 : decode cX7_whose 8 = .ok (.invokevirtual 159, 3) := dX7_whose_r0.2.2.2.2.1
theorem dX7_whose_11 : decode cX7_whose 11 = .ok (.ifCond .eq 16, 3) := dX7_whose_r0.2.2.2.2.2.1
theorem dX7_whose_14 : decode cX7_whose 14 = .ok (.aload_n 0, 1) := dX7_whose_r0.2.2.2.2.2.2.1
theorem dX7_whose_15 : decode cX7_whose 15 = .ok (.getfield 23, 3) := dX7_whose_r0.2.2.2.2.2.2.2.1
theorem dX7_whose_18 : decode cX7_whose 18 = .ok (.getfield 30, 3) := dX7_whose_r0.2.2.2.2.2.2.2.2.1
theorem dX7_whose_21 : decode cX7_whose 21 = .ok (.getfield 153, 3) := dX7_whose_r0.2.2.2.2.2.2.2.2.2.1
theorem dX7_whose_24 : decode cX7_whose 24 = .ok (.ifCond .ne 9, 3) := dX7_whose_r0.2.2.2.2.2.2.2.2.2.2.1
theorem dX7_whose_27 : decode cX7_whose 27 = .ok (.aload_n 0, 1) := dX7_whose_r0.2.2.2.2.2.2.2.2.2.2.2.1
theorem dX7_whose_28 : decode cX7_whose 28 = .ok (.iconst 5, 1) := dX7_whose_r0.2.2.2.2.2.2.2.2.2.2.2.2.1
theorem dX7_whose_29 : decode cX7_whose 29 = .ok (.invokevirtual 82, 3) := dX7_whose_r0.2.2.2.2.2.2.2.2.2.2.2.2.2.1
theorem dX7_whose_32 : decode cX7_whose 32 = .ok (.ireturn, 1) := dX7_whose_r0.2.2.2.2.2.2.2.2.2.2.2.2.2.2.1
theorem dX7_whose_33 : decode cX7_whose 33 = .ok (.aload_n 0, 1) := dX7_whose_r0.2.2.2.2.2.2.2.2.2.2.2.2.2.2.2.1
theorem dX7_whose_r34 : zdcP cX7_whose 34 [(.getfield 23, 3), (.getfield 30, 3), (.getfield 165, 3), (.iload_n 1, 1), (.iaload, 1), (.istore_n 2, 1), (.iconst 0, 1), (.istore_n 3, 1), (.iconst 1, 1), (.istore 4, 2), (.iload 4, 2), (.aload_n 0, 1), (.getfield 23, 3), (.getfield 30, 3), (.getfield 153, 3), (.if_icmp .ge 34, 3)] := zdcA_ok (by decide +kernel)
theorem dX7_whose_34 : decode cX7_whose 34 = .ok (.getfield 23, 3) := dX7_whose_r34.1
theorem dX7_whose_37 : decode cX7_whose 37 = .ok (.getfield 30, 3) := dX7_whose_r34.2.1
theorem dX7_whose_40 : decode cX7_whose 40 = .ok (.getfield 165, 3) := dX7_whose_r34.2.2.1
theorem dX7_whose_43 : decode cX7_whose 43 = .ok (.iload_n 1, 1) := dX7_whose_r34.2.2.2.1
theorem dX7_whose_44 : decode cX7_whose 44 = .ok (.iaload, 1) := dX7_whose_r34.2.2.2.2.1
theorem dX7_whose_45 : decode cX7_whose 45 = .ok (.istore_n 2, 1) := dX7_whose_r34.2.2.2.2.2.1
theorem dX7_whose_46 : decode cX7_whose 46 = .ok (.iconst 0, 1) := dX7_whose_r34.2.2.2.2.2.2.1
theorem dX7_whose_47 : decode cX7_whose 47 = .ok (.istore_n 3, 1) := dX7_whose_r34.2.2.2.2.2.2.2.1
theorem dX7_whose_48 : decode cX7_whose 48 = .ok (.iconst 1, 1) := dX7_whose_r34.2.2.2.2.2.2.2.2.1
theorem dX7_whose_49 : decode cX7_whose 49 = .ok (.istore 4, 2) := dX7_whose_r34.2.2.2.2.2.2.2.2.2.1
theorem dX7_whose_51 : decode cX7_whose 51 = .ok (.iload 4, 2) := dX7_whose_r34.2.2.2.2.2.2.2.2.2.2.1
theorem dX7_whose_53 : decode cX7_whose 53 = .ok (.aload_n 0, 1) := dX7_whose_r34.2.2.2.2.2.2.2.2.2.2.2.1
theorem dX7_whose_54 : decode cX7_whose 54 = .ok (.getfield 23, 3) := dX7_whose_r34.2.2.2.2.2.2.2.2.2.2.2.2.1
theorem dX7_whose_57 : decode cX7_whose 57 = .ok (.getfield 30, 3) := dX7_whose_r34.2.2.2.2.2.2.2.2.2.2.2.2.2.1
theorem dX7_whose_60 : decode cX7_whose 60 = .ok (.getfield 153, 3) := dX7_whose_r34.2.2.2.2.2.2.2.2.2.2.2.2.2.2.1
theorem dX7_whose_63 : decode cX7_whose 63 = .ok (.if_icmp .ge 34, 3) := dX7_whose_r34.2.2.2.2.2.2.2.2.2.2.2.2.2.2.2.1
theorem dX7_whose_r66 : zdcP cX7_whose 66 [(.aload_n 0, 1), (.getfield 23, 3), (.iload 4, 2), (.iload_n 2, 1), (.invokevirtual 140, 3), (.aload_n 0, 1), (.getfield 23, 3), (.iload_n 3, 1), (.iload_n 2, 1), (.invokevirtual 140, 3), (.if_icmp .ge 6, 3), (.iload 4, 2), (.istore_n 3, 1), (.iinc 4 1, 3), (.goto (-43), 3), (.iload_n 3, 1)] := zdcA_ok (by decide +kernel)
theorem dX7_whose_66 : decode cX7_whose 66 = .ok (.aload_n 0, 1) := dX7_whose_r66.1
theorem dX7_whose_67 : decode cX7_whose 67 = .ok (.getfield 23, 3) := dX7_whose_r66.2.1
theorem dX7_whose_70 : decode cX7_whose 70 = .ok (.iload 4, 2) := dX7_whose_r66.2.2.1
theorem dX7_whose_72 : decode cX7_whose 72 = .ok (.iload_n 2, 1) := dX7_whose_r66.2.2.2.1
theorem dX7_whose_73 : decode cX7_whose 73 = .ok (.invokevirtual 140, 3) := dX7_whose_r66.2.2.2.2.1
theorem dX7_whose_76 : decode cX7_whose 76 = .ok (.aload_n 0, 1) := dX7_whose_r66.2.2.2.2.2.1
theorem dX7_whose_77 : decode cX7_whose 77 = .ok (.getfield 23, 3) := dX7_whose_r66.2.2.2.2.2.2.1
theorem dX7_whose_80 : decode cX7_whose 80 = .ok (.iload_n 3, 1) := dX7_whose_r66.2.2.2.2.2.2.2.1
theorem dX7_whose_81 : decode cX7_whose 81 = .ok (.iload_n 2, 1) := dX7_whose_r66.2.2.2.2.2.2.2.2.1
theorem dX7_whose_82 : decode cX7_whose 82 = .ok (.invokevirtual 140, 3) := dX7_whose_r66.2.2.2.2.2.2.2.2.2.1
theorem dX7_whose_85 : decode cX7_whose 85 = .ok (.if_icmp .ge 6, 3) := dX7_whose_r66.2.2.2.2.2.2.2.2.2.2.1
theorem dX7_whose_88 : decode cX7_whose 88 = .ok (.iload 4, 2) := dX7_whose_r66.2.2.2.2.2.2.2.2.2.2.2.1
theorem dX7_whose_90 : decode cX7_whose 90 = .ok (.istore_n 3, 1) := dX7_whose_r66.2.2.2.2.2.2.2.2.2.2.2.2.1
theorem dX7_whose_91 : decode cX7_whose 91 = .ok (.iinc 4 1, 3) := dX7_whose_r66.2.2.2.2.2.2.2.2.2.2.2.2.2.1
theorem dX7_whose_94 : decode cX7_whose 94 = .ok (.goto (-43), 3) := dX7_whose_r66.2.2.2.2.2.2.2.2.2.2.2.2.2.2.1
theorem dX7_whose_97 : decode cX7_whose 97 = .ok (.iload_n 3, 1) := dX7_whose_r66.2.2.2.2.2.2.2.2.2.2.2.2.2.2.2.1
theorem dX7_whose_98 : decode cX7_whose 98 = .ok (.ireturn, 1) := zdc_ok (by decide +kernel)
def wq_90_51 (v1 : Int32) (Q : Int32 → zf_Me → Prop) : Nat → Int32 → Int32 → Int32 → zf_Me → Prop
  | 0, _, _, _, _ => False
  | n + 1, v2, v3, v4, m => ((v4.toInt ≥ ((m.1 3 5)).toInt → Q v3 m) ∧ (v4.toInt < ((m.1 3 5)).toInt → wp_51 2 3 8 v4 v2 m (fun x5 m6 => wp_51 2 3 8 v3 v2 m6 (fun x7 m8 => ((x5.toInt ≥ x7.toInt → wq_90_51 v1 Q n v2 v3 (v4 + 1) m8) ∧ (x5.toInt < x7.toInt → wq_90_51 v1 Q n v2 v4 (v4 + 1) m8))))))
theorem zq_90_51 {d : Nat} (hd : 1 ≤ d) {v1 : Int32} {Q : Int32 → zf_Me → Prop} : ∀ (n : Nat) (v2 : Int32) (v3 : Int32) (v4 : Int32) (m : zf_Me), wq_90_51 v1 Q n v2 v3 v4 m → zf_W none 0 0 d zt_90 51 [some (.inr (.inr (1, 0))), none, some (.inl v2), some (.inl v3), some (.inl v4)] [] m (zf_I Q) := by
  obtain ⟨e, rfl⟩ : ∃ z, d = z + 1 := ⟨d - 1, by omega⟩
  intro n
  induction n with
  | zero =>
    intro v2 v3 v4 m h
    exact h.elim
  | succ n ih =>
    intro v2 v3 v4 m h
    unfold wq_90_51 at h
    refine zf_ld (pc' := 53) (v := .inl v4) dX7_whose_51 rfl (fun _ _ _ => rfl) rfl rfl rfl ?_
    refine zf_ld (pc' := 54) (v := .inr (.inr (1, 0))) dX7_whose_53 rfl (fun _ _ _ => rfl) rfl rfl rfl ?_
    refine zf_gfr (pc' := 57) (b := 2) dX7_whose_54 rfl rfl (by decide) rfl rfl ?_
    refine zf_gfr (pc' := 60) (b := 3) dX7_whose_57 rfl rfl zf_walk2.1 zf_walk2.2.1 rfl ?_
    refine zf_gfi (pc' := 63) dX7_whose_60 rfl rfl zf_walk2.2.2.1.1 zf_walk2.2.2.1.2.1 rfl ?_
    refine zf_icmp_ge (tgt := 97) (pc' := 66) dX7_whose_63 rfl rfl (fun g => ?_) (fun g => ?_)
    · replace h := h.1 g
      refine zf_ld (pc' := 98) (v := .inl v3) dX7_whose_97 rfl (fun _ _ _ => rfl) rfl rfl rfl ?_
      exact zf_ri dX7_whose_98 rfl h
    · replace h := h.2 g
      refine zf_ld (pc' := 67) (v := .inr (.inr (1, 0))) dX7_whose_66 rfl (fun _ _ _ => rfl) rfl rfl rfl ?_
      refine zf_gfr (pc' := 70) (b := 2) dX7_whose_67 rfl rfl (by decide) rfl rfl ?_
      refine zf_ld (pc' := 72) (v := .inl v4) dX7_whose_70 rfl (fun _ _ _ => rfl) rfl rfl rfl ?_
      refine zf_ld (pc' := 73) (v := .inl v2) dX7_whose_72 rfl (fun _ _ _ => rfl) rfl rfl rfl ?_
      refine zf_iv (k := 51) (pc' := 76) (r := []) dX7_whose_73 rfl rfl rfl rfl zf_walk2.1 zf_walk2.2.1 rfl rfl (zr_51 (by omega) zf_walk2 h) (zf_kI (fun x5 m6 h => ?_))
      refine zf_ld (pc' := 77) (v := .inr (.inr (1, 0))) dX7_whose_76 rfl (fun _ _ _ => rfl) rfl rfl rfl ?_
      refine zf_gfr (pc' := 80) (b := 2) dX7_whose_77 rfl rfl (by decide) rfl rfl ?_
      refine zf_ld (pc' := 81) (v := .inl v3) dX7_whose_80 rfl (fun _ _ _ => rfl) rfl rfl rfl ?_
      refine zf_ld (pc' := 82) (v := .inl v2) dX7_whose_81 rfl (fun _ _ _ => rfl) rfl rfl rfl ?_
      refine zf_iv (k := 51) (pc' := 85) (r := [.inl x5]) dX7_whose_82 rfl rfl rfl rfl zf_walk2.1 zf_walk2.2.1 rfl rfl (zr_51 (by omega) zf_walk2 h) (zf_kI (fun x7 m8 h => ?_))
      refine zf_icmp_ge (tgt := 91) (pc' := 88) dX7_whose_85 rfl rfl (fun g => ?_) (fun g => ?_)
      · replace h := h.1 g
        refine zf_ii (y := (v4 + 1)) (L2 := [some (.inr (.inr (1, 0))), none, some (.inl v2), some (.inl v3), some (.inl (v4 + 1))]) (pc' := 94) dX7_whose_91 rfl rfl rfl rfl rfl ?_
        refine zf_goto (tgt := 51) dX7_whose_94 rfl ?_
        exact zf_lo (ih _ _ _ _ h) ⟨rfl, rfl, rfl, rfl, trivial⟩
      · replace h := h.2 g
        refine zf_ld (pc' := 90) (v := .inl v4) dX7_whose_88 rfl (fun _ _ _ => rfl) rfl rfl rfl ?_
        refine zf_st (pc' := 91) (L2 := [some (.inr (.inr (1, 0))), none, some (.inl v2), some (.inl v4), some (.inl v4)]) dX7_whose_90 rfl (fun _ _ _ => rfl) rfl rfl rfl rfl rfl rfl ?_
        refine zf_ii (y := (v4 + 1)) (L2 := [some (.inr (.inr (1, 0))), none, some (.inl v2), some (.inl v4), some (.inl (v4 + 1))]) (pc' := 94) dX7_whose_91 rfl rfl rfl rfl rfl ?_
        refine zf_goto (tgt := 51) dX7_whose_94 rfl ?_
        exact zf_lo (ih _ _ _ _ h) ⟨rfl, rfl, rfl, rfl, trivial⟩
def wp_90 (v1 : Int32) (m : zf_Me) (Q : Int32 → zf_Me → Prop) : Prop := wp_64 3 v1 m (fun b1 m2 => ((b1 = false → wp_109 5 m2 (fun x3 m4 => Q x3 m4)) ∧ (b1 = true → ((¬ ((m2.1 3 5)).toInt = 0 → ((0 ≤ (Int32.toInt v1) ∧ (Int32.toInt v1) < (24 : Int)) ∧ (∃ n51, wq_90_51 v1 Q n51 (m2.1 4 (Int32.toInt v1).toNat) 0 1 m2))) ∧ (((m2.1 3 5)).toInt = 0 → wp_109 5 m2 (fun x9 m10 => Q x9 m10))))))
theorem zr_90 {d : Nat} (hd : 1 ≤ d) {v1 : Int32} {Q : Int32 → zf_Me → Prop} {m : zf_Me} (h : wp_90 v1 m Q) : zf_M d 90 [.inr (.inr (1, 0)), .inl v1] m (zf_I Q) := by
  obtain ⟨e, rfl⟩ : ∃ z, d = z + 1 := ⟨d - 1, by omega⟩
  unfold wp_90 at h
  refine zf_M_of (Nat.le_of_ble_eq_true rfl) zm_90 (L := [some (.inr (.inr (1, 0))), some (.inl v1), none, none, none]) rfl ?_
  refine zf_ld (pc' := 1) (v := .inr (.inr (1, 0))) dX7_whose_0 rfl (fun _ _ _ => rfl) rfl rfl rfl ?_
  refine zf_gfr (pc' := 4) (b := 2) dX7_whose_1 rfl rfl (by decide) rfl rfl ?_
  refine zf_gfr (pc' := 7) (b := 3) dX7_whose_4 rfl rfl zf_walk2.1 zf_walk2.2.1 rfl ?_
  refine zf_ld (pc' := 8) (v := .inl v1) dX7_whose_7 rfl (fun _ _ _ => rfl) rfl rfl rfl ?_
  refine zf_iv (k := 64) (pc' := 11) (r := []) dX7_whose_8 rfl rfl rfl rfl zf_walk2.2.2.1.1 zf_walk2.2.2.1.2.1 rfl rfl (zr_64 (by omega) zf_walk2.2.2.1 h) (zf_kB (fun b1 m2 h => ?_))
  refine zf_ib_eq (tgt := 27) (pc' := 14) dX7_whose_11 rfl rfl (fun g => ?_) (fun g => ?_)
  · replace h := h.1 g
    refine zf_ld (pc' := 28) (v := .inr (.inr (1, 0))) dX7_whose_27 rfl (fun _ _ _ => rfl) rfl rfl rfl ?_
    refine zf_ic (v := 5) (pc' := 29) dX7_whose_28 rfl rfl ?_
    refine zf_iv (k := 109) (pc' := 32) (r := []) dX7_whose_29 rfl rfl rfl rfl (by decide) rfl rfl rfl (zr_109 (by omega) h) (zf_kI (fun x3 m4 h => ?_))
    exact zf_ri dX7_whose_32 rfl h
  · replace h := h.2 g
    refine zf_ld (pc' := 15) (v := .inr (.inr (1, 0))) dX7_whose_14 rfl (fun _ _ _ => rfl) rfl rfl rfl ?_
    refine zf_gfr (pc' := 18) (b := 2) dX7_whose_15 rfl rfl (by decide) rfl rfl ?_
    refine zf_gfr (pc' := 21) (b := 3) dX7_whose_18 rfl rfl zf_walk2.1 zf_walk2.2.1 rfl ?_
    refine zf_gfi (pc' := 24) dX7_whose_21 rfl rfl zf_walk2.2.2.1.1 zf_walk2.2.2.1.2.1 rfl ?_
    refine zf_if_ne (tgt := 33) (pc' := 27) dX7_whose_24 rfl rfl (fun g => ?_) (fun g => ?_)
    · replace h := h.1 g
      refine zf_ld (pc' := 34) (v := .inr (.inr (1, 0))) dX7_whose_33 rfl (fun _ _ _ => rfl) rfl rfl rfl ?_
      refine zf_gfr (pc' := 37) (b := 2) dX7_whose_34 rfl rfl (by decide) rfl rfl ?_
      refine zf_gfr (pc' := 40) (b := 3) dX7_whose_37 rfl rfl zf_walk2.1 zf_walk2.2.1 rfl ?_
      refine zf_gfr (pc' := 43) (b := 4) dX7_whose_40 rfl rfl zf_walk2.2.2.1.1 zf_walk2.2.2.1.2.1 rfl ?_
      refine zf_ld (pc' := 44) (v := .inl v1) dX7_whose_43 rfl (fun _ _ _ => rfl) rfl rfl rfl ?_
      refine zf_ial (pc' := 45) dX7_whose_44 rfl zf_walk2.2.2.1.2.2.1.1 zf_walk2.2.2.1.2.2.1.2 h.1 rfl ?_
      replace h := h.2
      refine zf_st (pc' := 46) (L2 := [some (.inr (.inr (1, 0))), some (.inl v1), some (.inl (m2.1 4 (Int32.toInt v1).toNat)), none, none]) dX7_whose_45 rfl (fun _ _ _ => rfl) rfl rfl rfl rfl rfl rfl ?_
      refine zf_ic (v := 0) (pc' := 47) dX7_whose_46 rfl rfl ?_
      refine zf_st (pc' := 48) (L2 := [some (.inr (.inr (1, 0))), some (.inl v1), some (.inl (m2.1 4 (Int32.toInt v1).toNat)), some (.inl 0), none]) dX7_whose_47 rfl (fun _ _ _ => rfl) rfl rfl rfl rfl rfl rfl ?_
      refine zf_ic (v := 1) (pc' := 49) dX7_whose_48 rfl rfl ?_
      refine zf_st (pc' := 51) (L2 := [some (.inr (.inr (1, 0))), some (.inl v1), some (.inl (m2.1 4 (Int32.toInt v1).toNat)), some (.inl 0), some (.inl 1)]) dX7_whose_49 rfl (fun _ _ _ => rfl) rfl rfl rfl rfl rfl rfl ?_
      obtain ⟨n51, h⟩ := h
      exact zf_lo (zq_90_51 (by omega) n51 _ _ _ _ h) ⟨rfl, rfl, rfl, rfl, trivial⟩
    · replace h := h.2 g
      refine zf_ld (pc' := 28) (v := .inr (.inr (1, 0))) dX7_whose_27 rfl (fun _ _ _ => rfl) rfl rfl rfl ?_
      refine zf_ic (v := 5) (pc' := 29) dX7_whose_28 rfl rfl ?_
      refine zf_iv (k := 109) (pc' := 32) (r := []) dX7_whose_29 rfl rfl rfl rfl (by decide) rfl rfl rfl (zr_109 (by omega) h) (zf_kI (fun x9 m10 h => ?_))
      exact zf_ri dX7_whose_32 rfl h
def zt_91 : zx_MT := (7, yX7_turn, cX7_turn, 5, (some FieldType.int), 2, 0)
theorem zm_91 : zx_m 91 = zt_91 := rfl
theorem dX7_turn_r0 : zdcP cX7_turn 0 [(.iload_n 1, 1), (.invokestatic 236, 3), (.ifCond .ne 10, 3), (.aload_n 0, 1), (.bipush 6, 2), (.invokevirtual 162, 3), (.ireturn, 1), (.iconst (-1), 1), (.istore_n 3, 1), (.aload_n 0, 1), (.getfield 40, 3), (.aload_n 0, 1), (.getfield 23, 3), (.invokevirtual 239, 3), (.iconst 0, 1), (.istore 4, 2)] := zdcA_ok (by decide +kernel)
theorem dX7_turn_0 : decode cX7_turn 0 = .ok (.iload_n 1, 1) := dX7_turn_r0.1
theorem dX7_turn_1 : decode cX7_turn 1 = .ok (.invokestatic 236, 3) := dX7_turn_r0.2.1
theorem dX7_turn_4 : decode cX7_turn 4 = .ok (.ifCond .ne 10, 3) := dX7_turn_r0.2.2.1
theorem dX7_turn_7 : decode cX7_turn 7 = .ok (.aload_n 0, 1) := dX7_turn_r0.2.2.2.1
theorem dX7_turn_8 : decode cX7_turn 8 = .ok (.bipush 6, 2) := dX7_turn_r0.2.2.2.2.1
theorem dX7_turn_10 : decode cX7_turn 10 = .ok (.invokevirtual 162, 3) := dX7_turn_r0.2.2.2.2.2.1
theorem dX7_turn_13 : decode cX7_turn 13 = .ok (.ireturn, 1) := dX7_turn_r0.2.2.2.2.2.2.1
theorem dX7_turn_14 : decode cX7_turn 14 = .ok (.iconst (-1), 1) := dX7_turn_r0.2.2.2.2.2.2.2.1
theorem dX7_turn_15 : decode cX7_turn 15 = .ok (.istore_n 3, 1) := dX7_turn_r0.2.2.2.2.2.2.2.2.1
theorem dX7_turn_16 : decode cX7_turn 16 = .ok (.aload_n 0, 1) := dX7_turn_r0.2.2.2.2.2.2.2.2.2.1
theorem dX7_turn_17 : decode cX7_turn 17 = .ok (.getfield 40, 3) := dX7_turn_r0.2.2.2.2.2.2.2.2.2.2.1
theorem dX7_turn_20 : decode cX7_turn 20 = .ok (.aload_n 0, 1) := dX7_turn_r0.2.2.2.2.2.2.2.2.2.2.2.1
theorem dX7_turn_21 : decode cX7_turn 21 = .ok (.getfield 23, 3) := dX7_turn_r0.2.2.2.2.2.2.2.2.2.2.2.2.1
theorem dX7_turn_24 : decode cX7_turn 24 = .ok (.invokevirtual 239, 3) := dX7_turn_r0.2.2.2.2.2.2.2.2.2.2.2.2.2.1
theorem dX7_turn_27 : decode cX7_turn 27 = .ok (.iconst 0, 1) := dX7_turn_r0.2.2.2.2.2.2.2.2.2.2.2.2.2.2.1
theorem dX7_turn_28 : decode cX7_turn 28 = .ok (.istore 4, 2) := dX7_turn_r0.2.2.2.2.2.2.2.2.2.2.2.2.2.2.2.1
theorem dX7_turn_r30 : zdcP cX7_turn 30 [(.iload 4, 2), (.bipush 60, 2), (.if_icmp .gt 56, 3), (.aload_n 0, 1), (.getfield 40, 3), (.getfield 246, 3), (.invokevirtual 257, 3), (.iload_n 2, 1), (.if_icmp .gt 42, 3), (.aload_n 0, 1), (.getfield 40, 3), (.getfield 246, 3), (.getfield 221, 3), (.aload_n 0, 1), (.getfield 23, 3), (.getfield 221, 3)] := zdcA_ok (by decide +kernel)
theorem dX7_turn_30 : decode cX7_turn 30 = .ok (.iload 4, 2) := dX7_turn_r30.1
theorem dX7_turn_32 : decode cX7_turn 32 = .ok (.bipush 60, 2) := dX7_turn_r30.2.1
theorem dX7_turn_34 : decode cX7_turn 34 = .ok (.if_icmp .gt 56, 3) := dX7_turn_r30.2.2.1
theorem dX7_turn_37 : decode cX7_turn 37 = .ok (.aload_n 0, 1) := dX7_turn_r30.2.2.2.1
theorem dX7_turn_38 : decode cX7_turn 38 = .ok (.getfield 40, 3) := dX7_turn_r30.2.2.2.2.1
theorem dX7_turn_41 : decode cX7_turn 41 = .ok (.getfield 246, 3) := dX7_turn_r30.2.2.2.2.2.1
theorem dX7_turn_44 : decode cX7_turn 44 = .ok (.invokevirtual 257, 3) := dX7_turn_r30.2.2.2.2.2.2.1
theorem dX7_turn_47 : decode cX7_turn 47 = .ok (.iload_n 2, 1) := dX7_turn_r30.2.2.2.2.2.2.2.1
theorem dX7_turn_48 : decode cX7_turn 48 = .ok (.if_icmp .gt 42, 3) := dX7_turn_r30.2.2.2.2.2.2.2.2.1
theorem dX7_turn_51 : decode cX7_turn 51 = .ok (.aload_n 0, 1) := dX7_turn_r30.2.2.2.2.2.2.2.2.2.1
theorem dX7_turn_52 : decode cX7_turn 52 = .ok (.getfield 40, 3) := dX7_turn_r30.2.2.2.2.2.2.2.2.2.2.1
theorem dX7_turn_55 : decode cX7_turn 55 = .ok (.getfield 246, 3) := dX7_turn_r30.2.2.2.2.2.2.2.2.2.2.2.1
theorem dX7_turn_58 : decode cX7_turn 58 = .ok (.getfield 221, 3) := dX7_turn_r30.2.2.2.2.2.2.2.2.2.2.2.2.1
theorem dX7_turn_61 : decode cX7_turn 61 = .ok (.aload_n 0, 1) := dX7_turn_r30.2.2.2.2.2.2.2.2.2.2.2.2.2.1
theorem dX7_turn_62 : decode cX7_turn 62 = .ok (.getfield 23, 3) := dX7_turn_r30.2.2.2.2.2.2.2.2.2.2.2.2.2.2.1
theorem dX7_turn_65 : decode cX7_turn 65 = .ok (.getfield 221, 3) := dX7_turn_r30.2.2.2.2.2.2.2.2.2.2.2.2.2.2.2.1
theorem dX7_turn_r68 : zdcP cX7_turn 68 [(.isub, 1), (.istore_n 3, 1), (.aload_n 0, 1), (.getfield 40, 3), (.iload_n 1, 1), (.invokevirtual 261, 3), (.ifCond .ne 6, 3), (.goto 9, 3), (.iinc 4 1, 3), (.goto (-57), 3), (.iload_n 3, 1), (.ireturn, 1)] := zdcA_ok (by decide +kernel)
theorem dX7_turn_68 : decode cX7_turn 68 = .ok (.isub, 1) := dX7_turn_r68.1
theorem dX7_turn_69 : decode cX7_turn 69 = .ok (.istore_n 3, 1) := dX7_turn_r68.2.1
theorem dX7_turn_70 : decode cX7_turn 70 = .ok (.aload_n 0, 1) := dX7_turn_r68.2.2.1
theorem dX7_turn_71 : decode cX7_turn 71 = .ok (.getfield 40, 3) := dX7_turn_r68.2.2.2.1
theorem dX7_turn_74 : decode cX7_turn 74 = .ok (.iload_n 1, 1) := dX7_turn_r68.2.2.2.2.1
theorem dX7_turn_75 : decode cX7_turn 75 = .ok (.invokevirtual 261, 3) := dX7_turn_r68.2.2.2.2.2.1
theorem dX7_turn_78 : decode cX7_turn 78 = .ok (.ifCond .ne 6, 3) := dX7_turn_r68.2.2.2.2.2.2.1
theorem dX7_turn_81 : decode cX7_turn 81 = .ok (.goto 9, 3) := dX7_turn_r68.2.2.2.2.2.2.2.1
theorem dX7_turn_84 : decode cX7_turn 84 = .ok (.iinc 4 1, 3) := dX7_turn_r68.2.2.2.2.2.2.2.2.1
theorem dX7_turn_87 : decode cX7_turn 87 = .ok (.goto (-57), 3) := dX7_turn_r68.2.2.2.2.2.2.2.2.2.1
theorem dX7_turn_90 : decode cX7_turn 90 = .ok (.iload_n 3, 1) := dX7_turn_r68.2.2.2.2.2.2.2.2.2.2.1
theorem dX7_turn_91 : decode cX7_turn 91 = .ok (.ireturn, 1) := dX7_turn_r68.2.2.2.2.2.2.2.2.2.2.2.1
def wq_91_30 (v1 : Int32) (v2 : Int32) (Q : Int32 → zf_Me → Prop) : Nat → Int32 → Int32 → zf_Me → Prop
  | 0, _, _, _ => False
  | n + 1, v3, v4, m => ((v4.toInt > 60 → Q v3 m) ∧ (v4.toInt ≤ 60 → wp_50 19 3 20 m (fun x5 m6 => ((x5.toInt > v2.toInt → Q v3 m6) ∧ (x5.toInt ≤ v2.toInt → wp_9 v1 m6 (fun b7 m8 => ((b7 = true → wq_91_30 v1 v2 Q n ((m6.1 19 10) - (m6.1 2 10)) (v4 + 1) m8) ∧ (b7 = false → Q ((m6.1 19 10) - (m6.1 2 10)) m8))))))))
theorem zq_91_30 {d : Nat} (hd : 5 ≤ d) {v1 : Int32} {v2 : Int32} {Q : Int32 → zf_Me → Prop} : ∀ (n : Nat) (v3 : Int32) (v4 : Int32) (m : zf_Me), wq_91_30 v1 v2 Q n v3 v4 m → zf_W none 0 0 d zt_91 30 [some (.inr (.inr (1, 0))), some (.inl v1), some (.inl v2), some (.inl v3), some (.inl v4)] [] m (zf_I Q) := by
  obtain ⟨e, rfl⟩ : ∃ z, d = z + 1 := ⟨d - 1, by omega⟩
  intro n
  induction n with
  | zero =>
    intro v3 v4 m h
    exact h.elim
  | succ n ih =>
    intro v3 v4 m h
    unfold wq_91_30 at h
    refine zf_ld (pc' := 32) (v := .inl v4) dX7_turn_30 rfl (fun _ _ _ => rfl) rfl rfl rfl ?_
    refine zf_bi (v := 60) (pc' := 34) dX7_turn_32 rfl rfl ?_
    refine zf_icmp_gt (tgt := 90) (pc' := 37) dX7_turn_34 rfl rfl (fun g => ?_) (fun g => ?_)
    · replace h := h.1 g
      refine zf_ld (pc' := 91) (v := .inl v3) dX7_turn_90 rfl (fun _ _ _ => rfl) rfl rfl rfl ?_
      exact zf_ri dX7_turn_91 rfl h
    · replace h := h.2 g
      refine zf_ld (pc' := 38) (v := .inr (.inr (1, 0))) dX7_turn_37 rfl (fun _ _ _ => rfl) rfl rfl rfl ?_
      refine zf_gfr (pc' := 41) (b := 18) dX7_turn_38 rfl rfl (by decide) rfl rfl ?_
      refine zf_gfr (pc' := 44) (b := 19) dX7_turn_41 rfl rfl (by decide) rfl rfl ?_
      refine zf_iv (k := 50) (pc' := 47) (r := []) dX7_turn_44 rfl rfl rfl rfl zf_walk19.1 zf_walk19.2.1 rfl rfl (zr_50 (by omega) zf_walk19 h) (zf_kI (fun x5 m6 h => ?_))
      refine zf_ld (pc' := 48) (v := .inl v2) dX7_turn_47 rfl (fun _ _ _ => rfl) rfl rfl rfl ?_
      refine zf_icmp_gt (tgt := 90) (pc' := 51) dX7_turn_48 rfl rfl (fun g => ?_) (fun g => ?_)
      · replace h := h.1 g
        refine zf_ld (pc' := 91) (v := .inl v3) dX7_turn_90 rfl (fun _ _ _ => rfl) rfl rfl rfl ?_
        exact zf_ri dX7_turn_91 rfl h
      · replace h := h.2 g
        refine zf_ld (pc' := 52) (v := .inr (.inr (1, 0))) dX7_turn_51 rfl (fun _ _ _ => rfl) rfl rfl rfl ?_
        refine zf_gfr (pc' := 55) (b := 18) dX7_turn_52 rfl rfl (by decide) rfl rfl ?_
        refine zf_gfr (pc' := 58) (b := 19) dX7_turn_55 rfl rfl (by decide) rfl rfl ?_
        refine zf_gfi (pc' := 61) dX7_turn_58 rfl rfl zf_walk19.1 zf_walk19.2.1 rfl ?_
        refine zf_ld (pc' := 62) (v := .inr (.inr (1, 0))) dX7_turn_61 rfl (fun _ _ _ => rfl) rfl rfl rfl ?_
        refine zf_gfr (pc' := 65) (b := 2) dX7_turn_62 rfl rfl (by decide) rfl rfl ?_
        refine zf_gfi (pc' := 68) dX7_turn_65 rfl rfl zf_walk2.1 zf_walk2.2.1 rfl ?_
        refine zf_in (pc' := 69) (S' := [.inl ((m6.1 19 10) - (m6.1 2 10))]) dX7_turn_68 rfl (fun _ _ _ => rfl) ?_
        refine zf_st (pc' := 70) (L2 := [some (.inr (.inr (1, 0))), some (.inl v1), some (.inl v2), some (.inl ((m6.1 19 10) - (m6.1 2 10))), some (.inl v4)]) dX7_turn_69 rfl (fun _ _ _ => rfl) rfl rfl rfl rfl rfl rfl ?_
        refine zf_ld (pc' := 71) (v := .inr (.inr (1, 0))) dX7_turn_70 rfl (fun _ _ _ => rfl) rfl rfl rfl ?_
        refine zf_gfr (pc' := 74) (b := 18) dX7_turn_71 rfl rfl (by decide) rfl rfl ?_
        refine zf_ld (pc' := 75) (v := .inl v1) dX7_turn_74 rfl (fun _ _ _ => rfl) rfl rfl rfl ?_
        refine zf_iv (k := 9) (pc' := 78) (r := []) dX7_turn_75 rfl rfl rfl rfl (by decide) rfl rfl rfl (zr_9 (by omega) h) (zf_kB (fun b7 m8 h => ?_))
        refine zf_ib_ne (tgt := 84) (pc' := 81) dX7_turn_78 rfl rfl (fun g => ?_) (fun g => ?_)
        · replace h := h.1 g
          refine zf_ii (y := (v4 + 1)) (L2 := [some (.inr (.inr (1, 0))), some (.inl v1), some (.inl v2), some (.inl ((m6.1 19 10) - (m6.1 2 10))), some (.inl (v4 + 1))]) (pc' := 87) dX7_turn_84 rfl rfl rfl rfl rfl ?_
          refine zf_goto (tgt := 30) dX7_turn_87 rfl ?_
          exact zf_lo (ih _ _ _ h) ⟨rfl, rfl, rfl, rfl, rfl, trivial⟩
        · replace h := h.2 g
          refine zf_goto (tgt := 90) dX7_turn_81 rfl ?_
          refine zf_ld (pc' := 91) (v := .inl ((m6.1 19 10) - (m6.1 2 10))) dX7_turn_90 rfl (fun _ _ _ => rfl) rfl rfl rfl ?_
          exact zf_ri dX7_turn_91 rfl h
def wp_91 (v1 : Int32) (v2 : Int32) (m : zf_Me) (Q : Int32 → zf_Me → Prop) : Prop := wp_116 v1 m (fun b1 m2 => ((b1 = true → wp_7 2 3 8 m2 (fun m4 => (∃ n30, wq_91_30 v1 v2 Q n30 (-1) 0 m4))) ∧ (b1 = false → wp_110 6 m2 (fun x9 m10 => Q x9 m10))))
theorem zr_91 {d : Nat} (hd : 5 ≤ d) {v1 : Int32} {v2 : Int32} {Q : Int32 → zf_Me → Prop} {m : zf_Me} (h : wp_91 v1 v2 m Q) : zf_M d 91 [.inr (.inr (1, 0)), .inl v1, .inl v2] m (zf_I Q) := by
  obtain ⟨e, rfl⟩ : ∃ z, d = z + 1 := ⟨d - 1, by omega⟩
  unfold wp_91 at h
  refine zf_M_of (Nat.le_of_ble_eq_true rfl) zm_91 (L := [some (.inr (.inr (1, 0))), some (.inl v1), some (.inl v2), none, none]) rfl ?_
  refine zf_ld (pc' := 1) (v := .inl v1) dX7_turn_0 rfl (fun _ _ _ => rfl) rfl rfl rfl ?_
  refine zf_is (k := 116) (pc' := 4) (r := []) dX7_turn_1 rfl rfl rfl rfl rfl (zr_116 (by omega) h) (zf_kB (fun b1 m2 h => ?_))
  refine zf_ib_ne (tgt := 14) (pc' := 7) dX7_turn_4 rfl rfl (fun g => ?_) (fun g => ?_)
  · replace h := h.1 g
    refine zf_ic (v := (-1)) (pc' := 15) dX7_turn_14 rfl rfl ?_
    refine zf_st (pc' := 16) (L2 := [some (.inr (.inr (1, 0))), some (.inl v1), some (.inl v2), some (.inl (-1)), none]) dX7_turn_15 rfl (fun _ _ _ => rfl) rfl rfl rfl rfl rfl rfl ?_
    refine zf_ld (pc' := 17) (v := .inr (.inr (1, 0))) dX7_turn_16 rfl (fun _ _ _ => rfl) rfl rfl rfl ?_
    refine zf_gfr (pc' := 20) (b := 18) dX7_turn_17 rfl rfl (by decide) rfl rfl ?_
    refine zf_ld (pc' := 21) (v := .inr (.inr (1, 0))) dX7_turn_20 rfl (fun _ _ _ => rfl) rfl rfl rfl ?_
    refine zf_gfr (pc' := 24) (b := 2) dX7_turn_21 rfl rfl (by decide) rfl rfl ?_
    refine zf_iv (k := 7) (pc' := 27) (r := []) dX7_turn_24 rfl rfl rfl rfl (by decide) rfl rfl rfl (zr_7 (by omega) zf_walk2 h) (zf_kO (fun m4 h => ?_))
    refine zf_ic (v := 0) (pc' := 28) dX7_turn_27 rfl rfl ?_
    refine zf_st (pc' := 30) (L2 := [some (.inr (.inr (1, 0))), some (.inl v1), some (.inl v2), some (.inl (-1)), some (.inl 0)]) dX7_turn_28 rfl (fun _ _ _ => rfl) rfl rfl rfl rfl rfl rfl ?_
    obtain ⟨n30, h⟩ := h
    exact zf_lo (zq_91_30 (by omega) n30 _ _ _ h) ⟨rfl, rfl, rfl, rfl, rfl, trivial⟩
  · replace h := h.2 g
    refine zf_ld (pc' := 8) (v := .inr (.inr (1, 0))) dX7_turn_7 rfl (fun _ _ _ => rfl) rfl rfl rfl ?_
    refine zf_bi (v := 6) (pc' := 10) dX7_turn_8 rfl rfl ?_
    refine zf_iv (k := 110) (pc' := 13) (r := []) dX7_turn_10 rfl rfl rfl rfl (by decide) rfl rfl rfl (zr_110 (by omega) h) (zf_kI (fun x9 m10 h => ?_))
    exact zf_ri dX7_turn_13 rfl h
def zt_92 : zx_MT := (7, yX7_pays, cX7_pays, 4, (some FieldType.int), 1, 0)
theorem zm_92 : zx_m 92 = zt_92 := rfl
theorem dX7_pays_r0 : zdcP cX7_pays 0 [(.iload_n 1, 1), (.invokestatic 236, 3), (.ifCond .ne 10, 3), (.aload_n 0, 1), (.bipush 6, 2), (.invokevirtual 82, 3), (.ireturn, 1), (.aload_n 0, 1), (.getfield 23, 3), (.bipush 9, 2), (.invokevirtual 208, 3), (.ifCond .ne 5, 3), (.iconst 0, 1), (.ireturn, 1), (.aload_n 0, 1), (.getfield 40, 3)] := zdcA_ok (by decide +kernel)
theorem dX7_pays_0 : decode cX7_pays 0 = .ok (.iload_n 1, 1) := dX7_pays_r0.1
theorem dX7_pays_1 : decode cX7_pays 1 = .ok (.invokestatic 236, 3) := dX7_pays_r0.2.1
theorem dX7_pays_4 : decode cX7_pays 4 = .ok (.ifCond .ne 10, 3) := dX7_pays_r0.2.2.1
theorem dX7_pays_7 : decode cX7_pays 7 = .ok (.aload_n 0, 1) := dX7_pays_r0.2.2.2.1
theorem dX7_pays_8 : decode cX7_pays 8 = .ok (.bipush 6, 2) := dX7_pays_r0.2.2.2.2.1
theorem dX7_pays_10 : decode cX7_pays 10 = .ok (.invokevirtual 82, 3) := dX7_pays_r0.2.2.2.2.2.1
theorem dX7_pays_13 : decode cX7_pays 13 = .ok (.ireturn, 1) := dX7_pays_r0.2.2.2.2.2.2.1
theorem dX7_pays_14 : decode cX7_pays 14 = .ok (.aload_n 0, 1) := dX7_pays_r0.2.2.2.2.2.2.2.1
theorem dX7_pays_15 : decode cX7_pays 15 = .ok (.getfield 23, 3) := dX7_pays_r0.2.2.2.2.2.2.2.2.1
theorem dX7_pays_18 : decode cX7_pays 18 = .ok (.bipush 9, 2) := dX7_pays_r0.2.2.2.2.2.2.2.2.2.1
theorem dX7_pays_20 : decode cX7_pays 20 = .ok (.invokevirtual 208, 3) := dX7_pays_r0.2.2.2.2.2.2.2.2.2.2.1
theorem dX7_pays_23 : decode cX7_pays 23 = .ok (.ifCond .ne 5, 3) := dX7_pays_r0.2.2.2.2.2.2.2.2.2.2.2.1
theorem dX7_pays_26 : decode cX7_pays 26 = .ok (.iconst 0, 1) := dX7_pays_r0.2.2.2.2.2.2.2.2.2.2.2.2.1
theorem dX7_pays_27 : decode cX7_pays 27 = .ok (.ireturn, 1) := dX7_pays_r0.2.2.2.2.2.2.2.2.2.2.2.2.2.1
theorem dX7_pays_28 : decode cX7_pays 28 = .ok (.aload_n 0, 1) := dX7_pays_r0.2.2.2.2.2.2.2.2.2.2.2.2.2.2.1
theorem dX7_pays_29 : decode cX7_pays 29 = .ok (.getfield 40, 3) := dX7_pays_r0.2.2.2.2.2.2.2.2.2.2.2.2.2.2.2.1
theorem dX7_pays_r32 : zdcP cX7_pays 32 [(.aload_n 0, 1), (.getfield 23, 3), (.invokevirtual 239, 3), (.aload_n 0, 1), (.getfield 40, 3), (.iload_n 1, 1), (.invokevirtual 242, 3), (.aload_n 0, 1), (.getfield 40, 3), (.getfield 246, 3), (.getfield 221, 3), (.istore_n 2, 1), (.aload_n 0, 1), (.getfield 40, 3), (.getfield 247, 3), (.istore_n 3, 1)] := zdcA_ok (by decide +kernel)
theorem dX7_pays_32 : decode cX7_pays 32 = .ok (.aload_n 0, 1) := dX7_pays_r32.1
theorem dX7_pays_33 : decode cX7_pays 33 = .ok (.getfield 23, 3) := dX7_pays_r32.2.1
theorem dX7_pays_36 : decode cX7_pays 36 = .ok (.invokevirtual 239, 3) := dX7_pays_r32.2.2.1
theorem dX7_pays_39 : decode cX7_pays 39 = .ok (.aload_n 0, 1) := dX7_pays_r32.2.2.2.1
theorem dX7_pays_40 : decode cX7_pays 40 = .ok (.getfield 40, 3) := dX7_pays_r32.2.2.2.2.1
theorem dX7_pays_43 : decode cX7_pays 43 = .ok (.iload_n 1, 1) := dX7_pays_r32.2.2.2.2.2.1
theorem dX7_pays_44 : decode cX7_pays 44 = .ok (.invokevirtual 242, 3) := dX7_pays_r32.2.2.2.2.2.2.1
theorem dX7_pays_47 : decode cX7_pays 47 = .ok (.aload_n 0, 1) := dX7_pays_r32.2.2.2.2.2.2.2.1
theorem dX7_pays_48 : decode cX7_pays 48 = .ok (.getfield 40, 3) := dX7_pays_r32.2.2.2.2.2.2.2.2.1
theorem dX7_pays_51 : decode cX7_pays 51 = .ok (.getfield 246, 3) := dX7_pays_r32.2.2.2.2.2.2.2.2.2.1
theorem dX7_pays_54 : decode cX7_pays 54 = .ok (.getfield 221, 3) := dX7_pays_r32.2.2.2.2.2.2.2.2.2.2.1
theorem dX7_pays_57 : decode cX7_pays 57 = .ok (.istore_n 2, 1) := dX7_pays_r32.2.2.2.2.2.2.2.2.2.2.2.1
theorem dX7_pays_58 : decode cX7_pays 58 = .ok (.aload_n 0, 1) := dX7_pays_r32.2.2.2.2.2.2.2.2.2.2.2.2.1
theorem dX7_pays_59 : decode cX7_pays 59 = .ok (.getfield 40, 3) := dX7_pays_r32.2.2.2.2.2.2.2.2.2.2.2.2.2.1
theorem dX7_pays_62 : decode cX7_pays 62 = .ok (.getfield 247, 3) := dX7_pays_r32.2.2.2.2.2.2.2.2.2.2.2.2.2.2.1
theorem dX7_pays_65 : decode cX7_pays 65 = .ok (.istore_n 3, 1) := dX7_pays_r32.2.2.2.2.2.2.2.2.2.2.2.2.2.2.2.1
theorem dX7_pays_r66 : zdcP cX7_pays 66 [(.aload_n 0, 1), (.getfield 40, 3), (.aload_n 0, 1), (.getfield 23, 3), (.invokevirtual 239, 3), (.aload_n 0, 1), (.getfield 40, 3), (.getfield 246, 3), (.bipush 9, 2), (.invokevirtual 264, 3), (.aload_n 0, 1), (.getfield 40, 3), (.iload_n 1, 1), (.invokevirtual 242, 3), (.aload_n 0, 1), (.getfield 40, 3)] := zdcA_ok (by decide +kernel)
theorem dX7_pays_66 : decode cX7_pays 66 = .ok (.aload_n 0, 1) := dX7_pays_r66.1
theorem dX7_pays_67 : decode cX7_pays 67 = .ok (.getfield 40, 3) := dX7_pays_r66.2.1
theorem dX7_pays_70 : decode cX7_pays 70 = .ok (.aload_n 0, 1) := dX7_pays_r66.2.2.1
theorem dX7_pays_71 : decode cX7_pays 71 = .ok (.getfield 23, 3) := dX7_pays_r66.2.2.2.1
theorem dX7_pays_74 : decode cX7_pays 74 = .ok (.invokevirtual 239, 3) := dX7_pays_r66.2.2.2.2.1
theorem dX7_pays_77 : decode cX7_pays 77 = .ok (.aload_n 0, 1) := dX7_pays_r66.2.2.2.2.2.1
theorem dX7_pays_78 : decode cX7_pays 78 = .ok (.getfield 40, 3) := dX7_pays_r66.2.2.2.2.2.2.1
theorem dX7_pays_81 : decode cX7_pays 81 = .ok (.getfield 246, 3) := dX7_pays_r66.2.2.2.2.2.2.2.1
theorem dX7_pays_84 : decode cX7_pays 84 = .ok (.bipush 9, 2) := dX7_pays_r66.2.2.2.2.2.2.2.2.1
theorem dX7_pays_86 : decode cX7_pays 86 = .ok (.invokevirtual 264, 3) := dX7_pays_r66.2.2.2.2.2.2.2.2.2.1
theorem dX7_pays_89 : decode cX7_pays 89 = .ok (.aload_n 0, 1) := dX7_pays_r66.2.2.2.2.2.2.2.2.2.2.1
theorem dX7_pays_90 : decode cX7_pays 90 = .ok (.getfield 40, 3) := dX7_pays_r66.2.2.2.2.2.2.2.2.2.2.2.1
theorem dX7_pays_93 : decode cX7_pays 93 = .ok (.iload_n 1, 1) := dX7_pays_r66.2.2.2.2.2.2.2.2.2.2.2.2.1
theorem dX7_pays_94 : decode cX7_pays 94 = .ok (.invokevirtual 242, 3) := dX7_pays_r66.2.2.2.2.2.2.2.2.2.2.2.2.2.1
theorem dX7_pays_97 : decode cX7_pays 97 = .ok (.aload_n 0, 1) := dX7_pays_r66.2.2.2.2.2.2.2.2.2.2.2.2.2.2.1
theorem dX7_pays_98 : decode cX7_pays 98 = .ok (.getfield 40, 3) := dX7_pays_r66.2.2.2.2.2.2.2.2.2.2.2.2.2.2.2.1
theorem dX7_pays_r101 : zdcP cX7_pays 101 [(.getfield 246, 3), (.getfield 221, 3), (.aload_n 0, 1), (.getfield 40, 3), (.getfield 247, 3), (.iload_n 2, 1), (.iload_n 3, 1), (.invokestatic 253, 3), (.ifCond .eq 7, 3), (.iconst 1, 1), (.goto 4, 3), (.iconst 0, 1), (.ireturn, 1)] := zdcA_ok (by decide +kernel)
theorem dX7_pays_101 : decode cX7_pays 101 = .ok (.getfield 246, 3) := dX7_pays_r101.1
theorem dX7_pays_104 : decode cX7_pays 104 = .ok (.getfield 221, 3) := dX7_pays_r101.2.1
theorem dX7_pays_107 : decode cX7_pays 107 = .ok (.aload_n 0, 1) := dX7_pays_r101.2.2.1
theorem dX7_pays_108 : decode cX7_pays 108 = .ok (.getfield 40, 3) := dX7_pays_r101.2.2.2.1
theorem dX7_pays_111 : decode cX7_pays 111 = .ok (.getfield 247, 3) := dX7_pays_r101.2.2.2.2.1
theorem dX7_pays_114 : decode cX7_pays 114 = .ok (.iload_n 2, 1) := dX7_pays_r101.2.2.2.2.2.1
theorem dX7_pays_115 : decode cX7_pays 115 = .ok (.iload_n 3, 1) := dX7_pays_r101.2.2.2.2.2.2.1
theorem dX7_pays_116 : decode cX7_pays 116 = .ok (.invokestatic 253, 3) := dX7_pays_r101.2.2.2.2.2.2.2.1
theorem dX7_pays_119 : decode cX7_pays 119 = .ok (.ifCond .eq 7, 3) := dX7_pays_r101.2.2.2.2.2.2.2.2.1
theorem dX7_pays_122 : decode cX7_pays 122 = .ok (.iconst 1, 1) := dX7_pays_r101.2.2.2.2.2.2.2.2.2.1
theorem dX7_pays_123 : decode cX7_pays 123 = .ok (.goto 4, 3) := dX7_pays_r101.2.2.2.2.2.2.2.2.2.2.1
theorem dX7_pays_126 : decode cX7_pays 126 = .ok (.iconst 0, 1) := dX7_pays_r101.2.2.2.2.2.2.2.2.2.2.2.1
theorem dX7_pays_127 : decode cX7_pays 127 = .ok (.ireturn, 1) := dX7_pays_r101.2.2.2.2.2.2.2.2.2.2.2.2.1
def wp_92 (v1 : Int32) (m : zf_Me) (Q : Int32 → zf_Me → Prop) : Prop := wp_116 v1 m (fun b1 m2 => ((b1 = true → wp_52 2 3 8 9 m2 (fun b3 m4 => ((b3 = true → wp_7 2 3 8 m4 (fun m6 => wp_8 v1 m6 (fun m8 => wp_7 2 3 8 m8 (fun m10 => wp_56 19 3 20 9 m10 (fun m12 => wp_8 v1 m12 (fun m14 => wp_119 (m14.1 19 10) (m14.1 18 3) (m8.1 19 10) (m8.1 18 3) m14 (fun b15 m16 => ((b15 = false → Q 0 m16) ∧ (b15 = true → Q 1 m16))))))))) ∧ (b3 = false → Q 0 m4)))) ∧ (b1 = false → wp_109 6 m2 (fun x17 m18 => Q x17 m18))))
theorem zr_92 {d : Nat} (hd : 6 ≤ d) {v1 : Int32} {Q : Int32 → zf_Me → Prop} {m : zf_Me} (h : wp_92 v1 m Q) : zf_M d 92 [.inr (.inr (1, 0)), .inl v1] m (zf_I Q) := by
  obtain ⟨e, rfl⟩ : ∃ z, d = z + 1 := ⟨d - 1, by omega⟩
  unfold wp_92 at h
  refine zf_M_of (Nat.le_of_ble_eq_true rfl) zm_92 (L := [some (.inr (.inr (1, 0))), some (.inl v1), none, none]) rfl ?_
  refine zf_ld (pc' := 1) (v := .inl v1) dX7_pays_0 rfl (fun _ _ _ => rfl) rfl rfl rfl ?_
  refine zf_is (k := 116) (pc' := 4) (r := []) dX7_pays_1 rfl rfl rfl rfl rfl (zr_116 (by omega) h) (zf_kB (fun b1 m2 h => ?_))
  refine zf_ib_ne (tgt := 14) (pc' := 7) dX7_pays_4 rfl rfl (fun g => ?_) (fun g => ?_)
  · replace h := h.1 g
    refine zf_ld (pc' := 15) (v := .inr (.inr (1, 0))) dX7_pays_14 rfl (fun _ _ _ => rfl) rfl rfl rfl ?_
    refine zf_gfr (pc' := 18) (b := 2) dX7_pays_15 rfl rfl (by decide) rfl rfl ?_
    refine zf_bi (v := 9) (pc' := 20) dX7_pays_18 rfl rfl ?_
    refine zf_iv (k := 52) (pc' := 23) (r := []) dX7_pays_20 rfl rfl rfl rfl zf_walk2.1 zf_walk2.2.1 rfl rfl (zr_52 (by omega) zf_walk2 h) (zf_kB (fun b3 m4 h => ?_))
    refine zf_ib_ne (tgt := 28) (pc' := 26) dX7_pays_23 rfl rfl (fun g => ?_) (fun g => ?_)
    · replace h := h.1 g
      refine zf_ld (pc' := 29) (v := .inr (.inr (1, 0))) dX7_pays_28 rfl (fun _ _ _ => rfl) rfl rfl rfl ?_
      refine zf_gfr (pc' := 32) (b := 18) dX7_pays_29 rfl rfl (by decide) rfl rfl ?_
      refine zf_ld (pc' := 33) (v := .inr (.inr (1, 0))) dX7_pays_32 rfl (fun _ _ _ => rfl) rfl rfl rfl ?_
      refine zf_gfr (pc' := 36) (b := 2) dX7_pays_33 rfl rfl (by decide) rfl rfl ?_
      refine zf_iv (k := 7) (pc' := 39) (r := []) dX7_pays_36 rfl rfl rfl rfl (by decide) rfl rfl rfl (zr_7 (by omega) zf_walk2 h) (zf_kO (fun m6 h => ?_))
      refine zf_ld (pc' := 40) (v := .inr (.inr (1, 0))) dX7_pays_39 rfl (fun _ _ _ => rfl) rfl rfl rfl ?_
      refine zf_gfr (pc' := 43) (b := 18) dX7_pays_40 rfl rfl (by decide) rfl rfl ?_
      refine zf_ld (pc' := 44) (v := .inl v1) dX7_pays_43 rfl (fun _ _ _ => rfl) rfl rfl rfl ?_
      refine zf_iv (k := 8) (pc' := 47) (r := []) dX7_pays_44 rfl rfl rfl rfl (by decide) rfl rfl rfl (zr_8 (by omega) h) (zf_kO (fun m8 h => ?_))
      refine zf_ld (pc' := 48) (v := .inr (.inr (1, 0))) dX7_pays_47 rfl (fun _ _ _ => rfl) rfl rfl rfl ?_
      refine zf_gfr (pc' := 51) (b := 18) dX7_pays_48 rfl rfl (by decide) rfl rfl ?_
      refine zf_gfr (pc' := 54) (b := 19) dX7_pays_51 rfl rfl (by decide) rfl rfl ?_
      refine zf_gfi (pc' := 57) dX7_pays_54 rfl rfl zf_walk19.1 zf_walk19.2.1 rfl ?_
      refine zf_st (pc' := 58) (L2 := [some (.inr (.inr (1, 0))), some (.inl v1), some (.inl (m8.1 19 10)), none]) dX7_pays_57 rfl (fun _ _ _ => rfl) rfl rfl rfl rfl rfl rfl ?_
      refine zf_ld (pc' := 59) (v := .inr (.inr (1, 0))) dX7_pays_58 rfl (fun _ _ _ => rfl) rfl rfl rfl ?_
      refine zf_gfr (pc' := 62) (b := 18) dX7_pays_59 rfl rfl (by decide) rfl rfl ?_
      refine zf_gfi (pc' := 65) dX7_pays_62 rfl rfl (by decide) rfl rfl ?_
      refine zf_st (pc' := 66) (L2 := [some (.inr (.inr (1, 0))), some (.inl v1), some (.inl (m8.1 19 10)), some (.inl (m8.1 18 3))]) dX7_pays_65 rfl (fun _ _ _ => rfl) rfl rfl rfl rfl rfl rfl ?_
      refine zf_ld (pc' := 67) (v := .inr (.inr (1, 0))) dX7_pays_66 rfl (fun _ _ _ => rfl) rfl rfl rfl ?_
      refine zf_gfr (pc' := 70) (b := 18) dX7_pays_67 rfl rfl (by decide) rfl rfl ?_
      refine zf_ld (pc' := 71) (v := .inr (.inr (1, 0))) dX7_pays_70 rfl (fun _ _ _ => rfl) rfl rfl rfl ?_
      refine zf_gfr (pc' := 74) (b := 2) dX7_pays_71 rfl rfl (by decide) rfl rfl ?_
      refine zf_iv (k := 7) (pc' := 77) (r := []) dX7_pays_74 rfl rfl rfl rfl (by decide) rfl rfl rfl (zr_7 (by omega) zf_walk2 h) (zf_kO (fun m10 h => ?_))
      refine zf_ld (pc' := 78) (v := .inr (.inr (1, 0))) dX7_pays_77 rfl (fun _ _ _ => rfl) rfl rfl rfl ?_
      refine zf_gfr (pc' := 81) (b := 18) dX7_pays_78 rfl rfl (by decide) rfl rfl ?_
      refine zf_gfr (pc' := 84) (b := 19) dX7_pays_81 rfl rfl (by decide) rfl rfl ?_
      refine zf_bi (v := 9) (pc' := 86) dX7_pays_84 rfl rfl ?_
      refine zf_iv (k := 56) (pc' := 89) (r := []) dX7_pays_86 rfl rfl rfl rfl zf_walk19.1 zf_walk19.2.1 rfl rfl (zr_56 (by omega) zf_walk19 h) (zf_kO (fun m12 h => ?_))
      refine zf_ld (pc' := 90) (v := .inr (.inr (1, 0))) dX7_pays_89 rfl (fun _ _ _ => rfl) rfl rfl rfl ?_
      refine zf_gfr (pc' := 93) (b := 18) dX7_pays_90 rfl rfl (by decide) rfl rfl ?_
      refine zf_ld (pc' := 94) (v := .inl v1) dX7_pays_93 rfl (fun _ _ _ => rfl) rfl rfl rfl ?_
      refine zf_iv (k := 8) (pc' := 97) (r := []) dX7_pays_94 rfl rfl rfl rfl (by decide) rfl rfl rfl (zr_8 (by omega) h) (zf_kO (fun m14 h => ?_))
      refine zf_ld (pc' := 98) (v := .inr (.inr (1, 0))) dX7_pays_97 rfl (fun _ _ _ => rfl) rfl rfl rfl ?_
      refine zf_gfr (pc' := 101) (b := 18) dX7_pays_98 rfl rfl (by decide) rfl rfl ?_
      refine zf_gfr (pc' := 104) (b := 19) dX7_pays_101 rfl rfl (by decide) rfl rfl ?_
      refine zf_gfi (pc' := 107) dX7_pays_104 rfl rfl zf_walk19.1 zf_walk19.2.1 rfl ?_
      refine zf_ld (pc' := 108) (v := .inr (.inr (1, 0))) dX7_pays_107 rfl (fun _ _ _ => rfl) rfl rfl rfl ?_
      refine zf_gfr (pc' := 111) (b := 18) dX7_pays_108 rfl rfl (by decide) rfl rfl ?_
      refine zf_gfi (pc' := 114) dX7_pays_111 rfl rfl (by decide) rfl rfl ?_
      refine zf_ld (pc' := 115) (v := .inl (m8.1 19 10)) dX7_pays_114 rfl (fun _ _ _ => rfl) rfl rfl rfl ?_
      refine zf_ld (pc' := 116) (v := .inl (m8.1 18 3)) dX7_pays_115 rfl (fun _ _ _ => rfl) rfl rfl rfl ?_
      refine zf_is (k := 119) (pc' := 119) (r := []) dX7_pays_116 rfl rfl rfl rfl rfl (zr_119 (by omega) h) (zf_kB (fun b15 m16 h => ?_))
      refine zf_ib_eq (tgt := 126) (pc' := 122) dX7_pays_119 rfl rfl (fun g => ?_) (fun g => ?_)
      · replace h := h.1 g
        refine zf_ic (v := 0) (pc' := 127) dX7_pays_126 rfl rfl ?_
        exact zf_ri dX7_pays_127 rfl h
      · replace h := h.2 g
        refine zf_ic (v := 1) (pc' := 123) dX7_pays_122 rfl rfl ?_
        refine zf_goto (tgt := 127) dX7_pays_123 rfl ?_
        exact zf_ri dX7_pays_127 rfl h
    · replace h := h.2 g
      refine zf_ic (v := 0) (pc' := 27) dX7_pays_26 rfl rfl ?_
      exact zf_ri dX7_pays_27 rfl h
  · replace h := h.2 g
    refine zf_ld (pc' := 8) (v := .inr (.inr (1, 0))) dX7_pays_7 rfl (fun _ _ _ => rfl) rfl rfl rfl ?_
    refine zf_bi (v := 6) (pc' := 10) dX7_pays_8 rfl rfl ?_
    refine zf_iv (k := 109) (pc' := 13) (r := []) dX7_pays_10 rfl rfl rfl rfl (by decide) rfl rfl rfl (zr_109 (by omega) h) (zf_kI (fun x17 m18 h => ?_))
    exact zf_ri dX7_pays_13 rfl h
def zt_93 : zx_MT := (7, yX7_bagged, cX7_bagged, 6, (some FieldType.int), 1, 0)
theorem zm_93 : zx_m 93 = zt_93 := rfl
theorem dX7_bagged_r0 : zdcP cX7_bagged 0 [(.iload_n 1, 1), (.invokestatic 236, 3), (.ifCond .ne 10, 3), (.aload_n 0, 1), (.bipush 6, 2), (.invokevirtual 162, 3), (.ireturn, 1), (.iconst (-1), 1), (.istore_n 2, 1), (.iconst (-1), 1), (.istore_n 3, 1), (.iconst 0, 1), (.istore 4, 2), (.iconst (-1), 1), (.istore 5, 2), (.iload 5, 2)] := zdcA_ok (by decide +kernel)
theorem dX7_bagged_0 : decode cX7_bagged 0 = .ok (.iload_n 1, 1) := dX7_bagged_r0.1
theorem dX7_bagged_1 : decode cX7_bagged 1 = .ok (.invokestatic 236, 3) := dX7_bagged_r0.2.1
theorem dX7_bagged_4 : decode cX7_bagged 4 = .ok (.ifCond .ne 10, 3) := dX7_bagged_r0.2.2.1
theorem dX7_bagged_7 : decode cX7_bagged 7 = .ok (.aload_n 0, 1) := dX7_bagged_r0.2.2.2.1
theorem dX7_bagged_8 : decode cX7_bagged 8 = .ok (.bipush 6, 2) := dX7_bagged_r0.2.2.2.2.1
theorem dX7_bagged_10 : decode cX7_bagged 10 = .ok (.invokevirtual 162, 3) := dX7_bagged_r0.2.2.2.2.2.1
theorem dX7_bagged_13 : decode cX7_bagged 13 = .ok (.ireturn, 1) := dX7_bagged_r0.2.2.2.2.2.2.1
theorem dX7_bagged_14 : decode cX7_bagged 14 = .ok (.iconst (-1), 1) := dX7_bagged_r0.2.2.2.2.2.2.2.1
theorem dX7_bagged_15 : decode cX7_bagged 15 = .ok (.istore_n 2, 1) := dX7_bagged_r0.2.2.2.2.2.2.2.2.1
theorem dX7_bagged_16 : decode cX7_bagged 16 = .ok (.iconst (-1), 1) := dX7_bagged_r0.2.2.2.2.2.2.2.2.2.1
theorem dX7_bagged_17 : decode cX7_bagged 17 = .ok (.istore_n 3, 1) := dX7_bagged_r0.2.2.2.2.2.2.2.2.2.2.1
theorem dX7_bagged_18 : decode cX7_bagged 18 = .ok (.iconst 0, 1) := dX7_bagged_r0.2.2.2.2.2.2.2.2.2.2.2.1
theorem dX7_bagged_19 : decode cX7_bagged 19 = .ok (.istore 4, 2) := dX7_bagged_r0.2.2.2.2.2.2.2.2.2.2.2.2.1
theorem dX7_bagged_21 : decode cX7_bagged 21 = .ok (.iconst (-1), 1) := dX7_bagged_r0.2.2.2.2.2.2.2.2.2.2.2.2.2.1
theorem dX7_bagged_22 : decode cX7_bagged 22 = .ok (.istore 5, 2) := dX7_bagged_r0.2.2.2.2.2.2.2.2.2.2.2.2.2.2.1
theorem dX7_bagged_24 : decode cX7_bagged 24 = .ok (.iload 5, 2) := dX7_bagged_r0.2.2.2.2.2.2.2.2.2.2.2.2.2.2.2.1
theorem dX7_bagged_r26 : zdcP cX7_bagged 26 [(.aload_n 0, 1), (.getfield 23, 3), (.getfield 30, 3), (.getfield 153, 3), (.if_icmp .ge 89, 3), (.aload_n 0, 1), (.getfield 40, 3), (.aload_n 0, 1), (.getfield 23, 3), (.invokevirtual 239, 3), (.aload_n 0, 1), (.getfield 40, 3), (.getfield 246, 3), (.iload 5, 2), (.putfield 174, 3), (.aload_n 0, 1)] := zdcA_ok (by decide +kernel)
theorem dX7_bagged_26 : decode cX7_bagged 26 = .ok (.aload_n 0, 1) := dX7_bagged_r26.1
theorem dX7_bagged_27 : decode cX7_bagged 27 = .ok (.getfield 23, 3) := dX7_bagged_r26.2.1
theorem dX7_bagged_30 : decode cX7_bagged 30 = .ok (.getfield 30, 3) := dX7_bagged_r26.2.2.1
theorem dX7_bagged_33 : decode cX7_bagged 33 = .ok (.getfield 153, 3) := dX7_bagged_r26.2.2.2.1
theorem dX7_bagged_36 : decode cX7_bagged 36 = .ok (.if_icmp .ge 89, 3) := dX7_bagged_r26.2.2.2.2.1
theorem dX7_bagged_39 : decode cX7_bagged 39 = .ok (.aload_n 0, 1) := dX7_bagged_r26.2.2.2.2.2.1
theorem dX7_bagged_40 : decode cX7_bagged 40 = .ok (.getfield 40, 3) := dX7_bagged_r26.2.2.2.2.2.2.1
theorem dX7_bagged_43 : decode cX7_bagged 43 = .ok (.aload_n 0, 1) := dX7_bagged_r26.2.2.2.2.2.2.2.1
theorem dX7_bagged_44 : decode cX7_bagged 44 = .ok (.getfield 23, 3) := dX7_bagged_r26.2.2.2.2.2.2.2.2.1
theorem dX7_bagged_47 : decode cX7_bagged 47 = .ok (.invokevirtual 239, 3) := dX7_bagged_r26.2.2.2.2.2.2.2.2.2.1
theorem dX7_bagged_50 : decode cX7_bagged 50 = .ok (.aload_n 0, 1) := dX7_bagged_r26.2.2.2.2.2.2.2.2.2.2.1
theorem dX7_bagged_51 : decode cX7_bagged 51 = .ok (.getfield 40, 3) := dX7_bagged_r26.2.2.2.2.2.2.2.2.2.2.2.1
theorem dX7_bagged_54 : decode cX7_bagged 54 = .ok (.getfield 246, 3) := dX7_bagged_r26.2.2.2.2.2.2.2.2.2.2.2.2.1
theorem dX7_bagged_57 : decode cX7_bagged 57 = .ok (.iload 5, 2) := dX7_bagged_r26.2.2.2.2.2.2.2.2.2.2.2.2.2.1
theorem dX7_bagged_59 : decode cX7_bagged 59 = .ok (.putfield 174, 3) := dX7_bagged_r26.2.2.2.2.2.2.2.2.2.2.2.2.2.2.1
theorem dX7_bagged_62 : decode cX7_bagged 62 = .ok (.aload_n 0, 1) := dX7_bagged_r26.2.2.2.2.2.2.2.2.2.2.2.2.2.2.2.1
theorem dX7_bagged_r63 : zdcP cX7_bagged 63 [(.getfield 40, 3), (.iload_n 1, 1), (.invokevirtual 242, 3), (.aload_n 0, 1), (.getfield 40, 3), (.getfield 246, 3), (.getfield 221, 3), (.aload_n 0, 1), (.getfield 40, 3), (.getfield 247, 3), (.iload_n 3, 1), (.iload 4, 2), (.invokestatic 253, 3), (.ifCond .eq 26, 3), (.iload 5, 2), (.istore_n 2, 1)] := zdcA_ok (by decide +kernel)
theorem dX7_bagged_63 : decode cX7_bagged 63 = .ok (.getfield 40, 3) := dX7_bagged_r63.1
theorem dX7_bagged_66 : decode cX7_bagged 66 = .ok (.iload_n 1, 1) := dX7_bagged_r63.2.1
theorem dX7_bagged_67 : decode cX7_bagged 67 = .ok (.invokevirtual 242, 3) := dX7_bagged_r63.2.2.1
theorem dX7_bagged_70 : decode cX7_bagged 70 = .ok (.aload_n 0, 1) := dX7_bagged_r63.2.2.2.1
theorem dX7_bagged_71 : decode cX7_bagged 71 = .ok (.getfield 40, 3) := dX7_bagged_r63.2.2.2.2.1
theorem dX7_bagged_74 : decode cX7_bagged 74 = .ok (.getfield 246, 3) := dX7_bagged_r63.2.2.2.2.2.1
theorem dX7_bagged_77 : decode cX7_bagged 77 = .ok (.getfield 221, 3) := dX7_bagged_r63.2.2.2.2.2.2.1
theorem dX7_bagged_80 : decode cX7_bagged 80 = .ok (.aload_n 0, 1) := dX7_bagged_r63.2.2.2.2.2.2.2.1
theorem dX7_bagged_81 : decode cX7_bagged 81 = .ok (.getfield 40, 3) := dX7_bagged_r63.2.2.2.2.2.2.2.2.1
theorem dX7_bagged_84 : decode cX7_bagged 84 = .ok (.getfield 247, 3) := dX7_bagged_r63.2.2.2.2.2.2.2.2.2.1
theorem dX7_bagged_87 : decode cX7_bagged 87 = .ok (.iload_n 3, 1) := dX7_bagged_r63.2.2.2.2.2.2.2.2.2.2.1
theorem dX7_bagged_88 : decode cX7_bagged 88 = .ok (.iload 4, 2) := dX7_bagged_r63.2.2.2.2.2.2.2.2.2.2.2.1
theorem dX7_bagged_90 : decode cX7_bagged 90 = .ok (.invokestatic 253, 3) := dX7_bagged_r63.2.2.2.2.2.2.2.2.2.2.2.2.1
theorem dX7_bagged_93 : decode cX7_bagged 93 = .ok (.ifCond .eq 26, 3) := dX7_bagged_r63.2.2.2.2.2.2.2.2.2.2.2.2.2.1
theorem dX7_bagged_96 : decode cX7_bagged 96 = .ok (.iload 5, 2) := dX7_bagged_r63.2.2.2.2.2.2.2.2.2.2.2.2.2.2.1
theorem dX7_bagged_98 : decode cX7_bagged 98 = .ok (.istore_n 2, 1) := dX7_bagged_r63.2.2.2.2.2.2.2.2.2.2.2.2.2.2.2.1
theorem dX7_bagged_r99 : zdcP cX7_bagged 99 [(.aload_n 0, 1), (.getfield 40, 3), (.getfield 246, 3), (.getfield 221, 3), (.istore_n 3, 1), (.aload_n 0, 1), (.getfield 40, 3), (.getfield 247, 3), (.istore 4, 2), (.iinc 5 1, 3), (.goto (-98), 3), (.iload_n 2, 1), (.ireturn, 1)] := zdcA_ok (by decide +kernel)
theorem dX7_bagged_99 : decode cX7_bagged 99 = .ok (.aload_n 0, 1) := dX7_bagged_r99.1
theorem dX7_bagged_100 : decode cX7_bagged 100 = .ok (.getfield 40, 3) := dX7_bagged_r99.2.1
theorem dX7_bagged_103 : decode cX7_bagged 103 = .ok (.getfield 246, 3) := dX7_bagged_r99.2.2.1
theorem dX7_bagged_106 : decode cX7_bagged 106 = .ok (.getfield 221, 3) := dX7_bagged_r99.2.2.2.1
theorem dX7_bagged_109 : decode cX7_bagged 109 = .ok (.istore_n 3, 1) := dX7_bagged_r99.2.2.2.2.1
theorem dX7_bagged_110 : decode cX7_bagged 110 = .ok (.aload_n 0, 1) := dX7_bagged_r99.2.2.2.2.2.1
theorem dX7_bagged_111 : decode cX7_bagged 111 = .ok (.getfield 40, 3) := dX7_bagged_r99.2.2.2.2.2.2.1
theorem dX7_bagged_114 : decode cX7_bagged 114 = .ok (.getfield 247, 3) := dX7_bagged_r99.2.2.2.2.2.2.2.1
theorem dX7_bagged_117 : decode cX7_bagged 117 = .ok (.istore 4, 2) := dX7_bagged_r99.2.2.2.2.2.2.2.2.1
theorem dX7_bagged_119 : decode cX7_bagged 119 = .ok (.iinc 5 1, 3) := dX7_bagged_r99.2.2.2.2.2.2.2.2.2.1
theorem dX7_bagged_122 : decode cX7_bagged 122 = .ok (.goto (-98), 3) := dX7_bagged_r99.2.2.2.2.2.2.2.2.2.2.1
theorem dX7_bagged_125 : decode cX7_bagged 125 = .ok (.iload_n 2, 1) := dX7_bagged_r99.2.2.2.2.2.2.2.2.2.2.2.1
theorem dX7_bagged_126 : decode cX7_bagged 126 = .ok (.ireturn, 1) := dX7_bagged_r99.2.2.2.2.2.2.2.2.2.2.2.2.1
def wq_93_24 (v1 : Int32) (Q : Int32 → zf_Me → Prop) : Nat → Int32 → Int32 → Int32 → Int32 → zf_Me → Prop
  | 0, _, _, _, _, _ => False
  | n + 1, v2, v3, v4, v5, m => ((v5.toInt ≥ ((m.1 3 5)).toInt → Q v2 m) ∧ (v5.toInt < ((m.1 3 5)).toInt → wp_7 2 3 8 m (fun m4 => (∀ m5, m5 = zf_u m4 19 2 v5 → wp_8 v1 m5 (fun m8 => wp_119 (m8.1 19 10) (m8.1 18 3) v3 v4 m8 (fun b9 m10 => ((b9 = false → wq_93_24 v1 Q n v2 v3 v4 (v5 + 1) m10) ∧ (b9 = true → wq_93_24 v1 Q n v5 (m10.1 19 10) (m10.1 18 3) (v5 + 1) m10))))))))
theorem zq_93_24 {d : Nat} (hd : 6 ≤ d) {v1 : Int32} {Q : Int32 → zf_Me → Prop} : ∀ (n : Nat) (v2 : Int32) (v3 : Int32) (v4 : Int32) (v5 : Int32) (m : zf_Me), wq_93_24 v1 Q n v2 v3 v4 v5 m → zf_W none 0 0 d zt_93 24 [some (.inr (.inr (1, 0))), some (.inl v1), some (.inl v2), some (.inl v3), some (.inl v4), some (.inl v5)] [] m (zf_I Q) := by
  obtain ⟨e, rfl⟩ : ∃ z, d = z + 1 := ⟨d - 1, by omega⟩
  intro n
  induction n with
  | zero =>
    intro v2 v3 v4 v5 m h
    exact h.elim
  | succ n ih =>
    intro v2 v3 v4 v5 m h
    unfold wq_93_24 at h
    refine zf_ld (pc' := 26) (v := .inl v5) dX7_bagged_24 rfl (fun _ _ _ => rfl) rfl rfl rfl ?_
    refine zf_ld (pc' := 27) (v := .inr (.inr (1, 0))) dX7_bagged_26 rfl (fun _ _ _ => rfl) rfl rfl rfl ?_
    refine zf_gfr (pc' := 30) (b := 2) dX7_bagged_27 rfl rfl (by decide) rfl rfl ?_
    refine zf_gfr (pc' := 33) (b := 3) dX7_bagged_30 rfl rfl zf_walk2.1 zf_walk2.2.1 rfl ?_
    refine zf_gfi (pc' := 36) dX7_bagged_33 rfl rfl zf_walk2.2.2.1.1 zf_walk2.2.2.1.2.1 rfl ?_
    refine zf_icmp_ge (tgt := 125) (pc' := 39) dX7_bagged_36 rfl rfl (fun g => ?_) (fun g => ?_)
    · replace h := h.1 g
      refine zf_ld (pc' := 126) (v := .inl v2) dX7_bagged_125 rfl (fun _ _ _ => rfl) rfl rfl rfl ?_
      exact zf_ri dX7_bagged_126 rfl h
    · replace h := h.2 g
      refine zf_ld (pc' := 40) (v := .inr (.inr (1, 0))) dX7_bagged_39 rfl (fun _ _ _ => rfl) rfl rfl rfl ?_
      refine zf_gfr (pc' := 43) (b := 18) dX7_bagged_40 rfl rfl (by decide) rfl rfl ?_
      refine zf_ld (pc' := 44) (v := .inr (.inr (1, 0))) dX7_bagged_43 rfl (fun _ _ _ => rfl) rfl rfl rfl ?_
      refine zf_gfr (pc' := 47) (b := 2) dX7_bagged_44 rfl rfl (by decide) rfl rfl ?_
      refine zf_iv (k := 7) (pc' := 50) (r := []) dX7_bagged_47 rfl rfl rfl rfl (by decide) rfl rfl rfl (zr_7 (by omega) zf_walk2 h) (zf_kO (fun m4 h => ?_))
      refine zf_ld (pc' := 51) (v := .inr (.inr (1, 0))) dX7_bagged_50 rfl (fun _ _ _ => rfl) rfl rfl rfl ?_
      refine zf_gfr (pc' := 54) (b := 18) dX7_bagged_51 rfl rfl (by decide) rfl rfl ?_
      refine zf_gfr (pc' := 57) (b := 19) dX7_bagged_54 rfl rfl (by decide) rfl rfl ?_
      refine zf_ld (pc' := 59) (v := .inl v5) dX7_bagged_57 rfl (fun _ _ _ => rfl) rfl rfl rfl ?_
      refine zf_pf (pc' := 62) dX7_bagged_59 rfl rfl zf_walk19.1 zf_walk19.2.1 rfl rfl (fun m5 e6 => ?_)
      replace h := h m5 e6
      refine zf_ld (pc' := 63) (v := .inr (.inr (1, 0))) dX7_bagged_62 rfl (fun _ _ _ => rfl) rfl rfl rfl ?_
      refine zf_gfr (pc' := 66) (b := 18) dX7_bagged_63 rfl rfl (by decide) rfl rfl ?_
      refine zf_ld (pc' := 67) (v := .inl v1) dX7_bagged_66 rfl (fun _ _ _ => rfl) rfl rfl rfl ?_
      refine zf_iv (k := 8) (pc' := 70) (r := []) dX7_bagged_67 rfl rfl rfl rfl (by decide) rfl rfl rfl (zr_8 (by omega) h) (zf_kO (fun m8 h => ?_))
      refine zf_ld (pc' := 71) (v := .inr (.inr (1, 0))) dX7_bagged_70 rfl (fun _ _ _ => rfl) rfl rfl rfl ?_
      refine zf_gfr (pc' := 74) (b := 18) dX7_bagged_71 rfl rfl (by decide) rfl rfl ?_
      refine zf_gfr (pc' := 77) (b := 19) dX7_bagged_74 rfl rfl (by decide) rfl rfl ?_
      refine zf_gfi (pc' := 80) dX7_bagged_77 rfl rfl zf_walk19.1 zf_walk19.2.1 rfl ?_
      refine zf_ld (pc' := 81) (v := .inr (.inr (1, 0))) dX7_bagged_80 rfl (fun _ _ _ => rfl) rfl rfl rfl ?_
      refine zf_gfr (pc' := 84) (b := 18) dX7_bagged_81 rfl rfl (by decide) rfl rfl ?_
      refine zf_gfi (pc' := 87) dX7_bagged_84 rfl rfl (by decide) rfl rfl ?_
      refine zf_ld (pc' := 88) (v := .inl v3) dX7_bagged_87 rfl (fun _ _ _ => rfl) rfl rfl rfl ?_
      refine zf_ld (pc' := 90) (v := .inl v4) dX7_bagged_88 rfl (fun _ _ _ => rfl) rfl rfl rfl ?_
      refine zf_is (k := 119) (pc' := 93) (r := []) dX7_bagged_90 rfl rfl rfl rfl rfl (zr_119 (by omega) h) (zf_kB (fun b9 m10 h => ?_))
      refine zf_ib_eq (tgt := 119) (pc' := 96) dX7_bagged_93 rfl rfl (fun g => ?_) (fun g => ?_)
      · replace h := h.1 g
        refine zf_ii (y := (v5 + 1)) (L2 := [some (.inr (.inr (1, 0))), some (.inl v1), some (.inl v2), some (.inl v3), some (.inl v4), some (.inl (v5 + 1))]) (pc' := 122) dX7_bagged_119 rfl rfl rfl rfl rfl ?_
        refine zf_goto (tgt := 24) dX7_bagged_122 rfl ?_
        exact zf_lo (ih _ _ _ _ _ h) ⟨rfl, rfl, rfl, rfl, rfl, rfl, trivial⟩
      · replace h := h.2 g
        refine zf_ld (pc' := 98) (v := .inl v5) dX7_bagged_96 rfl (fun _ _ _ => rfl) rfl rfl rfl ?_
        refine zf_st (pc' := 99) (L2 := [some (.inr (.inr (1, 0))), some (.inl v1), some (.inl v5), some (.inl v3), some (.inl v4), some (.inl v5)]) dX7_bagged_98 rfl (fun _ _ _ => rfl) rfl rfl rfl rfl rfl rfl ?_
        refine zf_ld (pc' := 100) (v := .inr (.inr (1, 0))) dX7_bagged_99 rfl (fun _ _ _ => rfl) rfl rfl rfl ?_
        refine zf_gfr (pc' := 103) (b := 18) dX7_bagged_100 rfl rfl (by decide) rfl rfl ?_
        refine zf_gfr (pc' := 106) (b := 19) dX7_bagged_103 rfl rfl (by decide) rfl rfl ?_
        refine zf_gfi (pc' := 109) dX7_bagged_106 rfl rfl zf_walk19.1 zf_walk19.2.1 rfl ?_
        refine zf_st (pc' := 110) (L2 := [some (.inr (.inr (1, 0))), some (.inl v1), some (.inl v5), some (.inl (m10.1 19 10)), some (.inl v4), some (.inl v5)]) dX7_bagged_109 rfl (fun _ _ _ => rfl) rfl rfl rfl rfl rfl rfl ?_
        refine zf_ld (pc' := 111) (v := .inr (.inr (1, 0))) dX7_bagged_110 rfl (fun _ _ _ => rfl) rfl rfl rfl ?_
        refine zf_gfr (pc' := 114) (b := 18) dX7_bagged_111 rfl rfl (by decide) rfl rfl ?_
        refine zf_gfi (pc' := 117) dX7_bagged_114 rfl rfl (by decide) rfl rfl ?_
        refine zf_st (pc' := 119) (L2 := [some (.inr (.inr (1, 0))), some (.inl v1), some (.inl v5), some (.inl (m10.1 19 10)), some (.inl (m10.1 18 3)), some (.inl v5)]) dX7_bagged_117 rfl (fun _ _ _ => rfl) rfl rfl rfl rfl rfl rfl ?_
        refine zf_ii (y := (v5 + 1)) (L2 := [some (.inr (.inr (1, 0))), some (.inl v1), some (.inl v5), some (.inl (m10.1 19 10)), some (.inl (m10.1 18 3)), some (.inl (v5 + 1))]) (pc' := 122) dX7_bagged_119 rfl rfl rfl rfl rfl ?_
        refine zf_goto (tgt := 24) dX7_bagged_122 rfl ?_
        exact zf_lo (ih _ _ _ _ _ h) ⟨rfl, rfl, rfl, rfl, rfl, rfl, trivial⟩
def wp_93 (v1 : Int32) (m : zf_Me) (Q : Int32 → zf_Me → Prop) : Prop := wp_116 v1 m (fun b1 m2 => ((b1 = true → (∃ n24, wq_93_24 v1 Q n24 (-1) (-1) 0 (-1) m2)) ∧ (b1 = false → wp_110 6 m2 (fun x11 m12 => Q x11 m12))))
theorem zr_93 {d : Nat} (hd : 6 ≤ d) {v1 : Int32} {Q : Int32 → zf_Me → Prop} {m : zf_Me} (h : wp_93 v1 m Q) : zf_M d 93 [.inr (.inr (1, 0)), .inl v1] m (zf_I Q) := by
  obtain ⟨e, rfl⟩ : ∃ z, d = z + 1 := ⟨d - 1, by omega⟩
  unfold wp_93 at h
  refine zf_M_of (Nat.le_of_ble_eq_true rfl) zm_93 (L := [some (.inr (.inr (1, 0))), some (.inl v1), none, none, none, none]) rfl ?_
  refine zf_ld (pc' := 1) (v := .inl v1) dX7_bagged_0 rfl (fun _ _ _ => rfl) rfl rfl rfl ?_
  refine zf_is (k := 116) (pc' := 4) (r := []) dX7_bagged_1 rfl rfl rfl rfl rfl (zr_116 (by omega) h) (zf_kB (fun b1 m2 h => ?_))
  refine zf_ib_ne (tgt := 14) (pc' := 7) dX7_bagged_4 rfl rfl (fun g => ?_) (fun g => ?_)
  · replace h := h.1 g
    refine zf_ic (v := (-1)) (pc' := 15) dX7_bagged_14 rfl rfl ?_
    refine zf_st (pc' := 16) (L2 := [some (.inr (.inr (1, 0))), some (.inl v1), some (.inl (-1)), none, none, none]) dX7_bagged_15 rfl (fun _ _ _ => rfl) rfl rfl rfl rfl rfl rfl ?_
    refine zf_ic (v := (-1)) (pc' := 17) dX7_bagged_16 rfl rfl ?_
    refine zf_st (pc' := 18) (L2 := [some (.inr (.inr (1, 0))), some (.inl v1), some (.inl (-1)), some (.inl (-1)), none, none]) dX7_bagged_17 rfl (fun _ _ _ => rfl) rfl rfl rfl rfl rfl rfl ?_
    refine zf_ic (v := 0) (pc' := 19) dX7_bagged_18 rfl rfl ?_
    refine zf_st (pc' := 21) (L2 := [some (.inr (.inr (1, 0))), some (.inl v1), some (.inl (-1)), some (.inl (-1)), some (.inl 0), none]) dX7_bagged_19 rfl (fun _ _ _ => rfl) rfl rfl rfl rfl rfl rfl ?_
    refine zf_ic (v := (-1)) (pc' := 22) dX7_bagged_21 rfl rfl ?_
    refine zf_st (pc' := 24) (L2 := [some (.inr (.inr (1, 0))), some (.inl v1), some (.inl (-1)), some (.inl (-1)), some (.inl 0), some (.inl (-1))]) dX7_bagged_22 rfl (fun _ _ _ => rfl) rfl rfl rfl rfl rfl rfl ?_
    obtain ⟨n24, h⟩ := h
    exact zf_lo (zq_93_24 (by omega) n24 _ _ _ _ _ h) ⟨rfl, rfl, rfl, rfl, rfl, rfl, trivial⟩
  · replace h := h.2 g
    refine zf_ld (pc' := 8) (v := .inr (.inr (1, 0))) dX7_bagged_7 rfl (fun _ _ _ => rfl) rfl rfl rfl ?_
    refine zf_bi (v := 6) (pc' := 10) dX7_bagged_8 rfl rfl ?_
    refine zf_iv (k := 110) (pc' := 13) (r := []) dX7_bagged_10 rfl rfl rfl rfl (by decide) rfl rfl rfl (zr_110 (by omega) h) (zf_kI (fun x11 m12 h => ?_))
    exact zf_ri dX7_bagged_13 rfl h
def zt_113 : zx_MT := (7, yX7_whyNoWalk, cX7_whyNoWalk, 4, (some FieldType.int), 2, 0)
theorem zm_113 : zx_m 113 = zt_113 := rfl
theorem dX7_whyNoWalk_r0 : zdcP cX7_whyNoWalk 0 [(.aload_n 0, 1), (.iload_n 1, 1), (.invokevirtual 90, 3), (.istore_n 3, 1), (.iload_n 3, 1), (.ifCond .eq 5, 3), (.iload_n 3, 1), (.ireturn, 1), (.iload_n 2, 1), (.ifCond .ge 5, 3), (.iconst 4, 1), (.ireturn, 1), (.iload_n 2, 1), (.aload_n 0, 1), (.getfield 11, 3), (.iload_n 1, 1)] := zdcA_ok (by decide +kernel)
theorem dX7_whyNoWalk_0 : decode cX7_whyNoWalk 0 = .ok (.aload_n 0, 1) := dX7_whyNoWalk_r0.1
theorem dX7_whyNoWalk_1 : decode cX7_whyNoWalk 1 = .ok (.iload_n 1, 1) := dX7_whyNoWalk_r0.2.1
theorem dX7_whyNoWalk_2 : decode cX7_whyNoWalk 2 = .ok (.invokevirtual 90, 3) := dX7_whyNoWalk_r0.2.2.1
theorem dX7_whyNoWalk_5 : decode cX7_whyNoWalk 5 = .ok (.istore_n 3, 1) := dX7_whyNoWalk_r0.2.2.2.1
theorem dX7_whyNoWalk_6 : decode cX7_whyNoWalk 6 = .ok (.iload_n 3, 1) := dX7_whyNoWalk_r0.2.2.2.2.1
theorem dX7_whyNoWalk_7 : decode cX7_whyNoWalk 7 = .ok (.ifCond .eq 5, 3) := dX7_whyNoWalk_r0.2.2.2.2.2.1
theorem dX7_whyNoWalk_10 : decode cX7_whyNoWalk 10 = .ok (.iload_n 3, 1) := dX7_whyNoWalk_r0.2.2.2.2.2.2.1
theorem dX7_whyNoWalk_11 : decode cX7_whyNoWalk 11 = .ok (.ireturn, 1) := dX7_whyNoWalk_r0.2.2.2.2.2.2.2.1
theorem dX7_whyNoWalk_12 : decode cX7_whyNoWalk 12 = .ok (.iload_n 2, 1) := dX7_whyNoWalk_r0.2.2.2.2.2.2.2.2.1
theorem dX7_whyNoWalk_13 : decode cX7_whyNoWalk 13 = .ok (.ifCond .ge 5, 3) := dX7_whyNoWalk_r0.2.2.2.2.2.2.2.2.2.1
theorem dX7_whyNoWalk_16 : decode cX7_whyNoWalk 16 = .ok (.iconst 4, 1) := dX7_whyNoWalk_r0.2.2.2.2.2.2.2.2.2.2.1
theorem dX7_whyNoWalk_17 : decode cX7_whyNoWalk 17 = .ok (.ireturn, 1) := dX7_whyNoWalk_r0.2.2.2.2.2.2.2.2.2.2.2.1
theorem dX7_whyNoWalk_18 : decode cX7_whyNoWalk 18 = .ok (.iload_n 2, 1) := dX7_whyNoWalk_r0.2.2.2.2.2.2.2.2.2.2.2.2.1
theorem dX7_whyNoWalk_19 : decode cX7_whyNoWalk 19 = .ok (.aload_n 0, 1) := dX7_whyNoWalk_r0.2.2.2.2.2.2.2.2.2.2.2.2.2.1
theorem dX7_whyNoWalk_20 : decode cX7_whyNoWalk 20 = .ok (.getfield 11, 3) := dX7_whyNoWalk_r0.2.2.2.2.2.2.2.2.2.2.2.2.2.2.1
theorem dX7_whyNoWalk_23 : decode cX7_whyNoWalk 23 = .ok (.iload_n 1, 1) := dX7_whyNoWalk_r0.2.2.2.2.2.2.2.2.2.2.2.2.2.2.2.1
theorem dX7_whyNoWalk_r24 : zdcP cX7_whyNoWalk 24 [(.aaload, 1), (.getfield 280, 3), (.if_icmp .le 5, 3), (.iconst 5, 1), (.ireturn, 1), (.iload_n 2, 1), (.bipush 60, 2), (.if_icmp .le 8, 3), (.bipush 6, 2), (.goto 4, 3), (.iconst 0, 1), (.ireturn, 1)] := zdcA_ok (by decide +kernel)
theorem dX7_whyNoWalk_24 : decode cX7_whyNoWalk 24 = .ok (.aaload, 1) := dX7_whyNoWalk_r24.1
theorem dX7_whyNoWalk_25 : decode cX7_whyNoWalk 25 = .ok (.getfield 280, 3) := dX7_whyNoWalk_r24.2.1
theorem dX7_whyNoWalk_28 : decode cX7_whyNoWalk 28 = .ok (.if_icmp .le 5, 3) := dX7_whyNoWalk_r24.2.2.1
theorem dX7_whyNoWalk_31 : decode cX7_whyNoWalk 31 = .ok (.iconst 5, 1) := dX7_whyNoWalk_r24.2.2.2.1
theorem dX7_whyNoWalk_32 : decode cX7_whyNoWalk 32 = .ok (.ireturn, 1) := dX7_whyNoWalk_r24.2.2.2.2.1
theorem dX7_whyNoWalk_33 : decode cX7_whyNoWalk 33 = .ok (.iload_n 2, 1) := dX7_whyNoWalk_r24.2.2.2.2.2.1
theorem dX7_whyNoWalk_34 : decode cX7_whyNoWalk 34 = .ok (.bipush 60, 2) := dX7_whyNoWalk_r24.2.2.2.2.2.2.1
theorem dX7_whyNoWalk_36 : decode cX7_whyNoWalk 36 = .ok (.if_icmp .le 8, 3) := dX7_whyNoWalk_r24.2.2.2.2.2.2.2.1
theorem dX7_whyNoWalk_39 : decode cX7_whyNoWalk 39 = .ok (.bipush 6, 2) := dX7_whyNoWalk_r24.2.2.2.2.2.2.2.2.1
theorem dX7_whyNoWalk_41 : decode cX7_whyNoWalk 41 = .ok (.goto 4, 3) := dX7_whyNoWalk_r24.2.2.2.2.2.2.2.2.2.1
theorem dX7_whyNoWalk_44 : decode cX7_whyNoWalk 44 = .ok (.iconst 0, 1) := dX7_whyNoWalk_r24.2.2.2.2.2.2.2.2.2.2.1
theorem dX7_whyNoWalk_45 : decode cX7_whyNoWalk 45 = .ok (.ireturn, 1) := dX7_whyNoWalk_r24.2.2.2.2.2.2.2.2.2.2.2.1
def wp_113 (v1 : Int32) (v2 : Int32) (m : zf_Me) (Q : Int32 → zf_Me → Prop) : Prop := wp_111 v1 m (fun x1 m2 => ((x1.toInt = 0 → ((v2.toInt ≥ 0 → ((0 ≤ (Int32.toInt v1) ∧ (Int32.toInt v1) < 8) ∧ ((v2.toInt ≤ ((m2.1 (47 + 2 * (Int32.toInt v1).toNat) 2)).toInt → ((v2.toInt ≤ 60 → Q 0 m2) ∧ (v2.toInt > 60 → Q 6 m2))) ∧ (v2.toInt > ((m2.1 (47 + 2 * (Int32.toInt v1).toNat) 2)).toInt → Q 5 m2)))) ∧ (v2.toInt < 0 → Q 4 m2))) ∧ (¬ x1.toInt = 0 → Q x1 m2)))
theorem zr_113 {d : Nat} (hd : 2 ≤ d) {v1 : Int32} {v2 : Int32} {Q : Int32 → zf_Me → Prop} {m : zf_Me} (h : wp_113 v1 v2 m Q) : zf_M d 113 [.inr (.inr (1, 0)), .inl v1, .inl v2] m (zf_I Q) := by
  obtain ⟨e, rfl⟩ : ∃ z, d = z + 1 := ⟨d - 1, by omega⟩
  unfold wp_113 at h
  refine zf_M_of (Nat.le_of_ble_eq_true rfl) zm_113 (L := [some (.inr (.inr (1, 0))), some (.inl v1), some (.inl v2), none]) rfl ?_
  refine zf_ld (pc' := 1) (v := .inr (.inr (1, 0))) dX7_whyNoWalk_0 rfl (fun _ _ _ => rfl) rfl rfl rfl ?_
  refine zf_ld (pc' := 2) (v := .inl v1) dX7_whyNoWalk_1 rfl (fun _ _ _ => rfl) rfl rfl rfl ?_
  refine zf_iv (k := 111) (pc' := 5) (r := []) dX7_whyNoWalk_2 rfl rfl rfl rfl (by decide) rfl rfl rfl (zr_111 (by omega) h) (zf_kI (fun x1 m2 h => ?_))
  refine zf_st (pc' := 6) (L2 := [some (.inr (.inr (1, 0))), some (.inl v1), some (.inl v2), some (.inl x1)]) dX7_whyNoWalk_5 rfl (fun _ _ _ => rfl) rfl rfl rfl rfl rfl rfl ?_
  refine zf_ld (pc' := 7) (v := .inl x1) dX7_whyNoWalk_6 rfl (fun _ _ _ => rfl) rfl rfl rfl ?_
  refine zf_if_eq (tgt := 12) (pc' := 10) dX7_whyNoWalk_7 rfl rfl (fun g => ?_) (fun g => ?_)
  · replace h := h.1 g
    refine zf_ld (pc' := 13) (v := .inl v2) dX7_whyNoWalk_12 rfl (fun _ _ _ => rfl) rfl rfl rfl ?_
    refine zf_if_ge (tgt := 18) (pc' := 16) dX7_whyNoWalk_13 rfl rfl (fun g => ?_) (fun g => ?_)
    · replace h := h.1 g
      refine zf_ld (pc' := 19) (v := .inl v2) dX7_whyNoWalk_18 rfl (fun _ _ _ => rfl) rfl rfl rfl ?_
      refine zf_ld (pc' := 20) (v := .inr (.inr (1, 0))) dX7_whyNoWalk_19 rfl (fun _ _ _ => rfl) rfl rfl rfl ?_
      refine zf_gfr (pc' := 23) (b := 1) dX7_whyNoWalk_20 rfl rfl (by decide) rfl rfl ?_
      refine zf_ld (pc' := 24) (v := .inl v1) dX7_whyNoWalk_23 rfl (fun _ _ _ => rfl) rfl rfl rfl ?_
      refine zf_aal (b := 47) (n := 8) (pc' := 25) dX7_whyNoWalk_24 rfl (by decide) rfl (by decide) rfl h.1 zf_row1 ?_
      have hb3 := h.1
      replace h := h.2
      have hx4 : zf_shelf (47 + 2 * (Int32.toInt v1).toNat) (48 + 2 * (Int32.toInt v1).toNat) := zf_shelves (by omega)
      refine zf_gfi (pc' := 28) dX7_whyNoWalk_25 rfl rfl hx4.1 hx4.2.1 rfl ?_
      refine zf_icmp_le (tgt := 33) (pc' := 31) dX7_whyNoWalk_28 rfl rfl (fun g => ?_) (fun g => ?_)
      · replace h := h.1 g
        refine zf_ld (pc' := 34) (v := .inl v2) dX7_whyNoWalk_33 rfl (fun _ _ _ => rfl) rfl rfl rfl ?_
        refine zf_bi (v := 60) (pc' := 36) dX7_whyNoWalk_34 rfl rfl ?_
        refine zf_icmp_le (tgt := 44) (pc' := 39) dX7_whyNoWalk_36 rfl rfl (fun g => ?_) (fun g => ?_)
        · replace h := h.1 g
          refine zf_ic (v := 0) (pc' := 45) dX7_whyNoWalk_44 rfl rfl ?_
          exact zf_ri dX7_whyNoWalk_45 rfl h
        · replace h := h.2 g
          refine zf_bi (v := 6) (pc' := 41) dX7_whyNoWalk_39 rfl rfl ?_
          refine zf_goto (tgt := 45) dX7_whyNoWalk_41 rfl ?_
          exact zf_ri dX7_whyNoWalk_45 rfl h
      · replace h := h.2 g
        refine zf_ic (v := 5) (pc' := 32) dX7_whyNoWalk_31 rfl rfl ?_
        exact zf_ri dX7_whyNoWalk_32 rfl h
    · replace h := h.2 g
      refine zf_ic (v := 4) (pc' := 17) dX7_whyNoWalk_16 rfl rfl ?_
      exact zf_ri dX7_whyNoWalk_17 rfl h
  · replace h := h.2 g
    refine zf_ld (pc' := 11) (v := .inl x1) dX7_whyNoWalk_10 rfl (fun _ _ _ => rfl) rfl rfl rfl ?_
    exact zf_ri dX7_whyNoWalk_11 rfl h
def zt_121 : zx_MT := (7, yX7_tryWalk, cX7_tryWalk, 5, (some FieldType.int), 2, 0)
theorem zm_121 : zx_m 121 = zt_121 := rfl
theorem dX7_tryWalk_r0 : zdcP cX7_tryWalk 0 [(.aload_n 0, 1), (.getfield 34, 3), (.aload_n 0, 1), (.getfield 23, 3), (.invokevirtual 202, 3), (.iconst 0, 1), (.istore_n 3, 1), (.iload_n 3, 1), (.iload_n 2, 1), (.if_icmp .ge 39, 3), (.aload_n 1, 1), (.iload_n 3, 1), (.invokevirtual 332, 3), (.istore 4, 2), (.aload_n 0, 1), (.getfield 34, 3)] := zdcA_ok (by decide +kernel)
theorem dX7_tryWalk_0 : decode cX7_tryWalk 0 = .ok (.aload_n 0, 1) := dX7_tryWalk_r0.1
theorem dX7_tryWalk_1 : decode cX7_tryWalk 1 = .ok (.getfield 34, 3) := dX7_tryWalk_r0.2.1
theorem dX7_tryWalk_4 : decode cX7_tryWalk 4 = .ok (.aload_n 0, 1) := dX7_tryWalk_r0.2.2.1
theorem dX7_tryWalk_5 : decode cX7_tryWalk 5 = .ok (.getfield 23, 3) := dX7_tryWalk_r0.2.2.2.1
theorem dX7_tryWalk_8 : decode cX7_tryWalk 8 = .ok (.invokevirtual 202, 3) := dX7_tryWalk_r0.2.2.2.2.1
theorem dX7_tryWalk_11 : decode cX7_tryWalk 11 = .ok (.iconst 0, 1) := dX7_tryWalk_r0.2.2.2.2.2.1
theorem dX7_tryWalk_12 : decode cX7_tryWalk 12 = .ok (.istore_n 3, 1) := dX7_tryWalk_r0.2.2.2.2.2.2.1
theorem dX7_tryWalk_13 : decode cX7_tryWalk 13 = .ok (.iload_n 3, 1) := dX7_tryWalk_r0.2.2.2.2.2.2.2.1
theorem dX7_tryWalk_14 : decode cX7_tryWalk 14 = .ok (.iload_n 2, 1) := dX7_tryWalk_r0.2.2.2.2.2.2.2.2.1
theorem dX7_tryWalk_15 : decode cX7_tryWalk 15 = .ok (.if_icmp .ge 39, 3) := dX7_tryWalk_r0.2.2.2.2.2.2.2.2.2.1
theorem dX7_tryWalk_18 : decode cX7_tryWalk 18 = .ok (.aload_n 1, 1) := dX7_tryWalk_r0.2.2.2.2.2.2.2.2.2.2.1
theorem dX7_tryWalk_19 : decode cX7_tryWalk 19 = .ok (.iload_n 3, 1) := dX7_tryWalk_r0.2.2.2.2.2.2.2.2.2.2.2.1
theorem dX7_tryWalk_20 : decode cX7_tryWalk 20 = .ok (.invokevirtual 332, 3) := dX7_tryWalk_r0.2.2.2.2.2.2.2.2.2.2.2.2.1
theorem dX7_tryWalk_23 : decode cX7_tryWalk 23 = .ok (.istore 4, 2) := dX7_tryWalk_r0.2.2.2.2.2.2.2.2.2.2.2.2.2.1
theorem dX7_tryWalk_25 : decode cX7_tryWalk 25 = .ok (.aload_n 0, 1) := dX7_tryWalk_r0.2.2.2.2.2.2.2.2.2.2.2.2.2.2.1
theorem dX7_tryWalk_26 : decode cX7_tryWalk 26 = .ok (.getfield 34, 3) := dX7_tryWalk_r0.2.2.2.2.2.2.2.2.2.2.2.2.2.2.2.1
theorem dX7_tryWalk_r29 : zdcP cX7_tryWalk 29 [(.iload 4, 2), (.invokevirtual 208, 3), (.ifCond .ne 5, 3), (.iload_n 3, 1), (.ireturn, 1), (.aload_n 0, 1), (.getfield 34, 3), (.iload 4, 2), (.invokevirtual 264, 3), (.iinc 3 1, 3), (.goto (-38), 3), (.iconst (-1), 1), (.ireturn, 1)] := zdcA_ok (by decide +kernel)
theorem dX7_tryWalk_29 : decode cX7_tryWalk 29 = .ok (.iload 4, 2) := dX7_tryWalk_r29.1
theorem dX7_tryWalk_31 : decode cX7_tryWalk 31 = .ok (.invokevirtual 208, 3) := dX7_tryWalk_r29.2.1
theorem dX7_tryWalk_34 : decode cX7_tryWalk 34 = .ok (.ifCond .ne 5, 3) := dX7_tryWalk_r29.2.2.1
theorem dX7_tryWalk_37 : decode cX7_tryWalk 37 = .ok (.iload_n 3, 1) := dX7_tryWalk_r29.2.2.2.1
theorem dX7_tryWalk_38 : decode cX7_tryWalk 38 = .ok (.ireturn, 1) := dX7_tryWalk_r29.2.2.2.2.1
theorem dX7_tryWalk_39 : decode cX7_tryWalk 39 = .ok (.aload_n 0, 1) := dX7_tryWalk_r29.2.2.2.2.2.1
theorem dX7_tryWalk_40 : decode cX7_tryWalk 40 = .ok (.getfield 34, 3) := dX7_tryWalk_r29.2.2.2.2.2.2.1
theorem dX7_tryWalk_43 : decode cX7_tryWalk 43 = .ok (.iload 4, 2) := dX7_tryWalk_r29.2.2.2.2.2.2.2.1
theorem dX7_tryWalk_45 : decode cX7_tryWalk 45 = .ok (.invokevirtual 264, 3) := dX7_tryWalk_r29.2.2.2.2.2.2.2.2.1
theorem dX7_tryWalk_48 : decode cX7_tryWalk 48 = .ok (.iinc 3 1, 3) := dX7_tryWalk_r29.2.2.2.2.2.2.2.2.2.1
theorem dX7_tryWalk_51 : decode cX7_tryWalk 51 = .ok (.goto (-38), 3) := dX7_tryWalk_r29.2.2.2.2.2.2.2.2.2.2.1
theorem dX7_tryWalk_54 : decode cX7_tryWalk 54 = .ok (.iconst (-1), 1) := dX7_tryWalk_r29.2.2.2.2.2.2.2.2.2.2.2.1
theorem dX7_tryWalk_55 : decode cX7_tryWalk 55 = .ok (.ireturn, 1) := dX7_tryWalk_r29.2.2.2.2.2.2.2.2.2.2.2.2.1
def wq_121_13 (c1 : Nat) (r1 : Nat) (v2 : Int32) (Q : Int32 → zf_Me → Prop) : Nat → Int32 → zf_Me → Prop
  | 0, _, _ => False
  | n + 1, v3, m => ((v3.toInt ≥ v2.toInt → Q (-1) m) ∧ (v3.toInt < v2.toInt → wp_24 c1 r1 v3 m (fun x3 m4 => wp_52 16 3 17 x3 m4 (fun b5 m6 => ((b5 = true → wp_56 16 3 17 x3 m6 (fun m8 => wq_121_13 c1 r1 v2 Q n (v3 + 1) m8)) ∧ (b5 = false → Q v3 m6))))))
theorem zq_121_13 {d : Nat} (hd : 4 ≤ d) {c1 : Nat} {r1 : Nat} (hp1 : zf_shelf c1 r1) {v2 : Int32} {Q : Int32 → zf_Me → Prop} : ∀ (n : Nat) (v3 : Int32) (m : zf_Me), wq_121_13 c1 r1 v2 Q n v3 m → zf_W none 0 0 d zt_121 13 [some (.inr (.inr (1, 0))), some (.inr (.inr (1, c1))), some (.inl v2), some (.inl v3), none] [] m (zf_I Q) := by
  obtain ⟨e, rfl⟩ : ∃ z, d = z + 1 := ⟨d - 1, by omega⟩
  intro n
  induction n with
  | zero =>
    intro v3 m h
    exact h.elim
  | succ n ih =>
    intro v3 m h
    unfold wq_121_13 at h
    refine zf_ld (pc' := 14) (v := .inl v3) dX7_tryWalk_13 rfl (fun _ _ _ => rfl) rfl rfl rfl ?_
    refine zf_ld (pc' := 15) (v := .inl v2) dX7_tryWalk_14 rfl (fun _ _ _ => rfl) rfl rfl rfl ?_
    refine zf_icmp_ge (tgt := 54) (pc' := 18) dX7_tryWalk_15 rfl rfl (fun g => ?_) (fun g => ?_)
    · replace h := h.1 g
      refine zf_ic (v := (-1)) (pc' := 55) dX7_tryWalk_54 rfl rfl ?_
      exact zf_ri dX7_tryWalk_55 rfl h
    · replace h := h.2 g
      refine zf_ld (pc' := 19) (v := .inr (.inr (1, c1))) dX7_tryWalk_18 rfl (fun _ _ _ => rfl) rfl rfl rfl ?_
      refine zf_ld (pc' := 20) (v := .inl v3) dX7_tryWalk_19 rfl (fun _ _ _ => rfl) rfl rfl rfl ?_
      refine zf_iv (k := 24) (pc' := 23) (r := []) dX7_tryWalk_20 rfl rfl rfl rfl hp1.1 hp1.2.1 rfl rfl (zr_24 (by omega) hp1 h) (zf_kI (fun x3 m4 h => ?_))
      refine zf_st (pc' := 25) (L2 := [some (.inr (.inr (1, 0))), some (.inr (.inr (1, c1))), some (.inl v2), some (.inl v3), some (.inl x3)]) dX7_tryWalk_23 rfl (fun _ _ _ => rfl) rfl rfl rfl rfl rfl rfl ?_
      refine zf_ld (pc' := 26) (v := .inr (.inr (1, 0))) dX7_tryWalk_25 rfl (fun _ _ _ => rfl) rfl rfl rfl ?_
      refine zf_gfr (pc' := 29) (b := 16) dX7_tryWalk_26 rfl rfl (by decide) rfl rfl ?_
      refine zf_ld (pc' := 31) (v := .inl x3) dX7_tryWalk_29 rfl (fun _ _ _ => rfl) rfl rfl rfl ?_
      refine zf_iv (k := 52) (pc' := 34) (r := []) dX7_tryWalk_31 rfl rfl rfl rfl zf_walk16.1 zf_walk16.2.1 rfl rfl (zr_52 (by omega) zf_walk16 h) (zf_kB (fun b5 m6 h => ?_))
      refine zf_ib_ne (tgt := 39) (pc' := 37) dX7_tryWalk_34 rfl rfl (fun g => ?_) (fun g => ?_)
      · replace h := h.1 g
        refine zf_ld (pc' := 40) (v := .inr (.inr (1, 0))) dX7_tryWalk_39 rfl (fun _ _ _ => rfl) rfl rfl rfl ?_
        refine zf_gfr (pc' := 43) (b := 16) dX7_tryWalk_40 rfl rfl (by decide) rfl rfl ?_
        refine zf_ld (pc' := 45) (v := .inl x3) dX7_tryWalk_43 rfl (fun _ _ _ => rfl) rfl rfl rfl ?_
        refine zf_iv (k := 56) (pc' := 48) (r := []) dX7_tryWalk_45 rfl rfl rfl rfl zf_walk16.1 zf_walk16.2.1 rfl rfl (zr_56 (by omega) zf_walk16 h) (zf_kO (fun m8 h => ?_))
        refine zf_ii (y := (v3 + 1)) (L2 := [some (.inr (.inr (1, 0))), some (.inr (.inr (1, c1))), some (.inl v2), some (.inl (v3 + 1)), some (.inl x3)]) (pc' := 51) dX7_tryWalk_48 rfl rfl rfl rfl rfl ?_
        refine zf_goto (tgt := 13) dX7_tryWalk_51 rfl ?_
        exact zf_lo (ih _ _ h) ⟨rfl, rfl, rfl, rfl, trivial⟩
      · replace h := h.2 g
        refine zf_ld (pc' := 38) (v := .inl v3) dX7_tryWalk_37 rfl (fun _ _ _ => rfl) rfl rfl rfl ?_
        exact zf_ri dX7_tryWalk_38 rfl h
def wp_121 (c1 : Nat) (r1 : Nat) (v2 : Int32) (m : zf_Me) (Q : Int32 → zf_Me → Prop) : Prop := wp_43 16 3 17 2 3 8 m (fun m2 => (∃ n13, wq_121_13 c1 r1 v2 Q n13 0 m2))
theorem zr_121 {d : Nat} (hd : 4 ≤ d) {c1 : Nat} {r1 : Nat} (hp1 : zf_shelf c1 r1) {v2 : Int32} {Q : Int32 → zf_Me → Prop} {m : zf_Me} (h : wp_121 c1 r1 v2 m Q) : zf_M d 121 [.inr (.inr (1, 0)), .inr (.inr (1, c1)), .inl v2] m (zf_I Q) := by
  obtain ⟨e, rfl⟩ : ∃ z, d = z + 1 := ⟨d - 1, by omega⟩
  unfold wp_121 at h
  refine zf_M_of (Nat.le_of_ble_eq_true rfl) zm_121 (L := [some (.inr (.inr (1, 0))), some (.inr (.inr (1, c1))), some (.inl v2), none, none]) rfl ?_
  refine zf_ld (pc' := 1) (v := .inr (.inr (1, 0))) dX7_tryWalk_0 rfl (fun _ _ _ => rfl) rfl rfl rfl ?_
  refine zf_gfr (pc' := 4) (b := 16) dX7_tryWalk_1 rfl rfl (by decide) rfl rfl ?_
  refine zf_ld (pc' := 5) (v := .inr (.inr (1, 0))) dX7_tryWalk_4 rfl (fun _ _ _ => rfl) rfl rfl rfl ?_
  refine zf_gfr (pc' := 8) (b := 2) dX7_tryWalk_5 rfl rfl (by decide) rfl rfl ?_
  refine zf_iv (k := 43) (pc' := 11) (r := []) dX7_tryWalk_8 rfl rfl rfl rfl zf_walk16.1 zf_walk16.2.1 rfl rfl (zr_43 (by omega) zf_walk16 zf_walk2 h) (zf_kO (fun m2 h => ?_))
  refine zf_ic (v := 0) (pc' := 12) dX7_tryWalk_11 rfl rfl ?_
  refine zf_st (pc' := 13) (L2 := [some (.inr (.inr (1, 0))), some (.inr (.inr (1, c1))), some (.inl v2), some (.inl 0), none]) dX7_tryWalk_12 rfl (fun _ _ _ => rfl) rfl rfl rfl rfl rfl rfl ?_
  obtain ⟨n13, h⟩ := h
  exact zf_lo (zq_121_13 (by omega) hp1 n13 _ _ h) ⟨rfl, rfl, rfl, rfl, trivial⟩
def zt_94 : zx_MT := (7, yX7_judge, cX7_judge, 4, (some FieldType.int), 2, 0)
theorem zm_94 : zx_m 94 = zt_94 := rfl
theorem dX7_judge_r0 : zdcP cX7_judge 0 [(.aload_n 0, 1), (.iload_n 1, 1), (.iload_n 2, 1), (.invokevirtual 267, 3), (.istore_n 3, 1), (.iload_n 3, 1), (.ifCond .eq 9, 3), (.aload_n 0, 1), (.iload_n 3, 1), (.invokevirtual 162, 3), (.ireturn, 1), (.aload_n 0, 1), (.aload_n 0, 1), (.getfield 11, 3), (.iload_n 1, 1), (.aaload, 1)] := zdcA_ok (by decide +kernel)
theorem dX7_judge_0 : decode cX7_judge 0 = .ok (.aload_n 0, 1) := dX7_judge_r0.1
theorem dX7_judge_1 : decode cX7_judge 1 = .ok (.iload_n 1, 1) := dX7_judge_r0.2.1
theorem dX7_judge_2 : decode cX7_judge 2 = .ok (.iload_n 2, 1) := dX7_judge_r0.2.2.1
theorem dX7_judge_3 : decode cX7_judge 3 = .ok (.invokevirtual 267, 3) := dX7_judge_r0.2.2.2.1
theorem dX7_judge_6 : decode cX7_judge 6 = .ok (.istore_n 3, 1) := dX7_judge_r0.2.2.2.2.1
theorem dX7_judge_7 : decode cX7_judge 7 = .ok (.iload_n 3, 1) := dX7_judge_r0.2.2.2.2.2.1
theorem dX7_judge_8 : decode cX7_judge 8 = .ok (.ifCond .eq 9, 3) := dX7_judge_r0.2.2.2.2.2.2.1
theorem dX7_judge_11 : decode cX7_judge 11 = .ok (.aload_n 0, 1) := dX7_judge_r0.2.2.2.2.2.2.2.1
theorem dX7_judge_12 : decode cX7_judge 12 = .ok (.iload_n 3, 1) := dX7_judge_r0.2.2.2.2.2.2.2.2.1
theorem dX7_judge_13 : decode cX7_judge 13 = .ok (.invokevirtual 162, 3) := dX7_judge_r0.2.2.2.2.2.2.2.2.2.1
theorem dX7_judge_16 : decode cX7_judge 16 = .ok (.ireturn, 1) := dX7_judge_r0.2.2.2.2.2.2.2.2.2.2.1
theorem dX7_judge_17 : decode cX7_judge 17 = .ok (.aload_n 0, 1) := dX7_judge_r0.2.2.2.2.2.2.2.2.2.2.2.1
theorem dX7_judge_18 : decode cX7_judge 18 = .ok (.aload_n 0, 1) := dX7_judge_r0.2.2.2.2.2.2.2.2.2.2.2.2.1
theorem dX7_judge_19 : decode cX7_judge 19 = .ok (.getfield 11, 3) := dX7_judge_r0.2.2.2.2.2.2.2.2.2.2.2.2.2.1
theorem dX7_judge_22 : decode cX7_judge 22 = .ok (.iload_n 1, 1) := dX7_judge_r0.2.2.2.2.2.2.2.2.2.2.2.2.2.2.1
theorem dX7_judge_23 : decode cX7_judge 23 = .ok (.aaload, 1) := dX7_judge_r0.2.2.2.2.2.2.2.2.2.2.2.2.2.2.2.1
theorem dX7_judge_r24 : zdcP cX7_judge 24 [(.iload_n 2, 1), (.invokevirtual 270, 3), (.ireturn, 1)] := zdcA_ok (by decide +kernel)
theorem dX7_judge_24 : decode cX7_judge 24 = .ok (.iload_n 2, 1) := dX7_judge_r24.1
theorem dX7_judge_25 : decode cX7_judge 25 = .ok (.invokevirtual 270, 3) := dX7_judge_r24.2.1
theorem dX7_judge_28 : decode cX7_judge 28 = .ok (.ireturn, 1) := dX7_judge_r24.2.2.1
def wp_94 (v1 : Int32) (v2 : Int32) (m : zf_Me) (Q : Int32 → zf_Me → Prop) : Prop := wp_113 v1 v2 m (fun x1 m2 => ((x1.toInt = 0 → ((0 ≤ (Int32.toInt v1) ∧ (Int32.toInt v1) < 8) ∧ wp_121 (47 + 2 * (Int32.toInt v1).toNat) (48 + 2 * (Int32.toInt v1).toNat) v2 m2 (fun x5 m6 => Q x5 m6))) ∧ (¬ x1.toInt = 0 → wp_110 x1 m2 (fun x7 m8 => Q x7 m8))))
theorem zr_94 {d : Nat} (hd : 5 ≤ d) {v1 : Int32} {v2 : Int32} {Q : Int32 → zf_Me → Prop} {m : zf_Me} (h : wp_94 v1 v2 m Q) : zf_M d 94 [.inr (.inr (1, 0)), .inl v1, .inl v2] m (zf_I Q) := by
  obtain ⟨e, rfl⟩ : ∃ z, d = z + 1 := ⟨d - 1, by omega⟩
  unfold wp_94 at h
  refine zf_M_of (Nat.le_of_ble_eq_true rfl) zm_94 (L := [some (.inr (.inr (1, 0))), some (.inl v1), some (.inl v2), none]) rfl ?_
  refine zf_ld (pc' := 1) (v := .inr (.inr (1, 0))) dX7_judge_0 rfl (fun _ _ _ => rfl) rfl rfl rfl ?_
  refine zf_ld (pc' := 2) (v := .inl v1) dX7_judge_1 rfl (fun _ _ _ => rfl) rfl rfl rfl ?_
  refine zf_ld (pc' := 3) (v := .inl v2) dX7_judge_2 rfl (fun _ _ _ => rfl) rfl rfl rfl ?_
  refine zf_iv (k := 113) (pc' := 6) (r := []) dX7_judge_3 rfl rfl rfl rfl (by decide) rfl rfl rfl (zr_113 (by omega) h) (zf_kI (fun x1 m2 h => ?_))
  refine zf_st (pc' := 7) (L2 := [some (.inr (.inr (1, 0))), some (.inl v1), some (.inl v2), some (.inl x1)]) dX7_judge_6 rfl (fun _ _ _ => rfl) rfl rfl rfl rfl rfl rfl ?_
  refine zf_ld (pc' := 8) (v := .inl x1) dX7_judge_7 rfl (fun _ _ _ => rfl) rfl rfl rfl ?_
  refine zf_if_eq (tgt := 17) (pc' := 11) dX7_judge_8 rfl rfl (fun g => ?_) (fun g => ?_)
  · replace h := h.1 g
    refine zf_ld (pc' := 18) (v := .inr (.inr (1, 0))) dX7_judge_17 rfl (fun _ _ _ => rfl) rfl rfl rfl ?_
    refine zf_ld (pc' := 19) (v := .inr (.inr (1, 0))) dX7_judge_18 rfl (fun _ _ _ => rfl) rfl rfl rfl ?_
    refine zf_gfr (pc' := 22) (b := 1) dX7_judge_19 rfl rfl (by decide) rfl rfl ?_
    refine zf_ld (pc' := 23) (v := .inl v1) dX7_judge_22 rfl (fun _ _ _ => rfl) rfl rfl rfl ?_
    refine zf_aal (b := 47) (n := 8) (pc' := 24) dX7_judge_23 rfl (by decide) rfl (by decide) rfl h.1 zf_row1 ?_
    have hb3 := h.1
    replace h := h.2
    have hx4 : zf_shelf (47 + 2 * (Int32.toInt v1).toNat) (48 + 2 * (Int32.toInt v1).toNat) := zf_shelves (by omega)
    refine zf_ld (pc' := 25) (v := .inl v2) dX7_judge_24 rfl (fun _ _ _ => rfl) rfl rfl rfl ?_
    refine zf_iv (k := 121) (pc' := 28) (r := []) dX7_judge_25 rfl rfl rfl rfl (by decide) rfl rfl rfl (zr_121 (by omega) hx4 h) (zf_kI (fun x5 m6 h => ?_))
    exact zf_ri dX7_judge_28 rfl h
  · replace h := h.2 g
    refine zf_ld (pc' := 12) (v := .inr (.inr (1, 0))) dX7_judge_11 rfl (fun _ _ _ => rfl) rfl rfl rfl ?_
    refine zf_ld (pc' := 13) (v := .inl x1) dX7_judge_12 rfl (fun _ _ _ => rfl) rfl rfl rfl ?_
    refine zf_iv (k := 110) (pc' := 16) (r := []) dX7_judge_13 rfl rfl rfl rfl (by decide) rfl rfl rfl (zr_110 (by omega) h) (zf_kI (fun x7 m8 h => ?_))
    exact zf_ri dX7_judge_16 rfl h
