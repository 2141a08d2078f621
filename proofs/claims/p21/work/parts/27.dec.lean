/-! part 27: methods 15..: laid by wip/flat/dec.py -/
def zt_15 : zx_MT := (2, yX2_deeper, cX2_deeper, 7, none, 2, 0)
theorem zm_15 : zx_m 15 = zt_15 := rfl
theorem dX2_deeper_r0 : zdcP cX2_deeper 0 [(.aload_n 0, 1), (.iload_n 1, 1), (.iload_n 2, 1), (.invokevirtual 61, 3), (.ifCond .eq 4, 3), (.return_, 1), (.aload_n 0, 1), (.getfield 13, 3), (.iload_n 1, 1), (.aaload, 1), (.astore_n 3, 1), (.iconst 1, 1), (.istore 4, 2), (.iload_n 1, 1), (.aload_n 0, 1), (.getfield 24, 3)] := zdcA_ok (by decide +kernel)
theorem dX2_deeper_0 : decode cX2_deeper 0 = .ok (.aload_n 0, 1) := dX2_deeper_r0.1
theorem dX2_deeper_1 : decode cX2_deeper 1 = .ok (.iload_n 1, 1) := dX2_deeper_r0.2.1
theorem dX2_deeper_2 : decode cX2_deeper 2 = .ok (.iload_n 2, 1) := dX2_deeper_r0.2.2.1
theorem dX2_deeper_3 : decode cX2_deeper 3 = .ok (.invokevirtual 61, 3) := dX2_deeper_r0.2.2.2.1
theorem dX2_deeper_6 : decode cX2_deeper 6 = .ok (.ifCond .eq 4, 3) := dX2_deeper_r0.2.2.2.2.1
theorem dX2_deeper_9 : decode cX2_deeper 9 = .ok (.return_, 1) := dX2_deeper_r0.2.2.2.2.2.1
theorem dX2_deeper_10 : decode cX2_deeper 10 = .ok (.aload_n 0, 1) := dX2_deeper_r0.2.2.2.2.2.2.1
theorem dX2_deeper_11 : decode cX2_deeper 11 = .ok (.getfield 13, 3) := dX2_deeper_r0.2.2.2.2.2.2.2.1
theorem dX2_deeper_14 : decode cX2_deeper 14 = .ok (.iload_n 1, 1) := dX2_deeper_r0.2.2.2.2.2.2.2.2.1
theorem dX2_deeper_15 : decode cX2_deeper 15 = .ok (.aaload, 1) := dX2_deeper_r0.2.2.2.2.2.2.2.2.2.1
theorem dX2_deeper_16 : decode cX2_deeper 16 = .ok (.astore_n 3, 1) := dX2_deeper_r0.2.2.2.2.2.2.2.2.2.2.1
theorem dX2_deeper_17 : decode cX2_deeper 17 = .ok (.iconst 1, 1) := dX2_deeper_r0.2.2.2.2.2.2.2.2.2.2.2.1
theorem dX2_deeper_18 : decode cX2_deeper 18 = .ok (.istore 4, 2) := dX2_deeper_r0.2.2.2.2.2.2.2.2.2.2.2.2.1
theorem dX2_deeper_20 : decode cX2_deeper 20 = .ok (.iload_n 1, 1) := dX2_deeper_r0.2.2.2.2.2.2.2.2.2.2.2.2.2.1
theorem dX2_deeper_21 : decode cX2_deeper 21 = .ok (.aload_n 0, 1) := dX2_deeper_r0.2.2.2.2.2.2.2.2.2.2.2.2.2.2.1
theorem dX2_deeper_22 : decode cX2_deeper 22 = .ok (.getfield 24, 3) := dX2_deeper_r0.2.2.2.2.2.2.2.2.2.2.2.2.2.2.2.1
theorem dX2_deeper_r25 : zdcP cX2_deeper 25 [(.if_icmp .ge 85, 3), (.aload_n 3, 1), (.invokevirtual 65, 3), (.ifCond .ne 78, 3), (.iconst 0, 1), (.istore 5, 2), (.iload 5, 2), (.bipush 10, 2), (.if_icmp .ge 68, 3), (.aload_n 3, 1), (.iload 5, 2), (.invokevirtual 69, 3), (.ifCond .eq 53, 3), (.iconst 0, 1), (.istore 4, 2), (.aload_n 0, 1)] := zdcA_ok (by decide +kernel)
theorem dX2_deeper_25 : decode cX2_deeper 25 = .ok (.if_icmp .ge 85, 3) := dX2_deeper_r25.1
theorem dX2_deeper_28 : decode cX2_deeper 28 = .ok (.aload_n 3, 1) := dX2_deeper_r25.2.1
theorem dX2_deeper_29 : decode cX2_deeper 29 = .ok (.invokevirtual 65, 3) := dX2_deeper_r25.2.2.1
theorem dX2_deeper_32 : decode cX2_deeper 32 = .ok (.ifCond .ne 78, 3) := dX2_deeper_r25.2.2.2.1
theorem dX2_deeper_35 : decode cX2_deeper 35 = .ok (.iconst 0, 1) := dX2_deeper_r25.2.2.2.2.1
theorem dX2_deeper_36 : decode cX2_deeper 36 = .ok (.istore 5, 2) := dX2_deeper_r25.2.2.2.2.2.1
theorem dX2_deeper_38 : decode cX2_deeper 38 = .ok (.iload 5, 2) := dX2_deeper_r25.2.2.2.2.2.2.1
theorem dX2_deeper_40 : decode cX2_deeper 40 = .ok (.bipush 10, 2) := dX2_deeper_r25.2.2.2.2.2.2.2.1
theorem dX2_deeper_42 : decode cX2_deeper 42 = .ok (.if_icmp .ge 68, 3) := dX2_deeper_r25.2.2.2.2.2.2.2.2.1
theorem dX2_deeper_45 : decode cX2_deeper 45 = .ok (.aload_n 3, 1) := dX2_deeper_r25.2.2.2.2.2.2.2.2.2.1
theorem dX2_deeper_46 : decode cX2_deeper 46 = .ok (.iload 5, 2) := dX2_deeper_r25.2.2.2.2.2.2.2.2.2.2.1
theorem dX2_deeper_48 : decode cX2_deeper 48 = .ok (.invokevirtual 69, 3) := dX2_deeper_r25.2.2.2.2.2.2.2.2.2.2.2.1
theorem dX2_deeper_51 : decode cX2_deeper 51 = .ok (.ifCond .eq 53, 3) := dX2_deeper_r25.2.2.2.2.2.2.2.2.2.2.2.2.1
theorem dX2_deeper_54 : decode cX2_deeper 54 = .ok (.iconst 0, 1) := dX2_deeper_r25.2.2.2.2.2.2.2.2.2.2.2.2.2.1
theorem dX2_deeper_55 : decode cX2_deeper 55 = .ok (.istore 4, 2) := dX2_deeper_r25.2.2.2.2.2.2.2.2.2.2.2.2.2.2.1
theorem dX2_deeper_57 : decode cX2_deeper 57 = .ok (.aload_n 0, 1) := dX2_deeper_r25.2.2.2.2.2.2.2.2.2.2.2.2.2.2.2.1
theorem dX2_deeper_r58 : zdcP cX2_deeper 58 [(.getfield 17, 3), (.iload_n 1, 1), (.iload 5, 2), (.iastore, 1), (.aload_n 0, 1), (.getfield 13, 3), (.iload_n 1, 1), (.iconst 1, 1), (.iadd, 1), (.aaload, 1), (.astore 6, 2), (.aload 6, 2), (.aload_n 3, 1), (.invokevirtual 49, 3), (.aload 6, 2), (.iload 5, 2)] := zdcA_ok (by decide +kernel)
theorem dX2_deeper_58 : decode cX2_deeper 58 = .ok (.getfield 17, 3) := dX2_deeper_r58.1
theorem dX2_deeper_61 : decode cX2_deeper 61 = .ok (.iload_n 1, 1) := dX2_deeper_r58.2.1
theorem dX2_deeper_62 : decode cX2_deeper 62 = .ok (.iload 5, 2) := dX2_deeper_r58.2.2.1
theorem dX2_deeper_64 : decode cX2_deeper 64 = .ok (.iastore, 1) := dX2_deeper_r58.2.2.2.1
theorem dX2_deeper_65 : decode cX2_deeper 65 = .ok (.aload_n 0, 1) := dX2_deeper_r58.2.2.2.2.1
theorem dX2_deeper_66 : decode cX2_deeper 66 = .ok (.getfield 13, 3) := dX2_deeper_r58.2.2.2.2.2.1
theorem dX2_deeper_69 : decode cX2_deeper 69 = .ok (.iload_n 1, 1) := dX2_deeper_r58.2.2.2.2.2.2.1
theorem dX2_deeper_70 : decode cX2_deeper 70 = .ok (.iconst 1, 1) := dX2_deeper_r58.2.2.2.2.2.2.2.1
theorem dX2_deeper_71 : decode cX2_deeper 71 = .ok (.iadd, 1) := dX2_deeper_r58.2.2.2.2.2.2.2.2.1
theorem dX2_deeper_72 : decode cX2_deeper 72 = .ok (.aaload, 1) := dX2_deeper_r58.2.2.2.2.2.2.2.2.2.1
theorem dX2_deeper_73 : decode cX2_deeper 73 = .ok (.astore 6, 2) := dX2_deeper_r58.2.2.2.2.2.2.2.2.2.2.1
theorem dX2_deeper_75 : decode cX2_deeper 75 = .ok (.aload 6, 2) := dX2_deeper_r58.2.2.2.2.2.2.2.2.2.2.2.1
theorem dX2_deeper_77 : decode cX2_deeper 77 = .ok (.aload_n 3, 1) := dX2_deeper_r58.2.2.2.2.2.2.2.2.2.2.2.2.1
theorem dX2_deeper_78 : decode cX2_deeper 78 = .ok (.invokevirtual 49, 3) := dX2_deeper_r58.2.2.2.2.2.2.2.2.2.2.2.2.2.1
theorem dX2_deeper_81 : decode cX2_deeper 81 = .ok (.aload 6, 2) := dX2_deeper_r58.2.2.2.2.2.2.2.2.2.2.2.2.2.2.1
theorem dX2_deeper_83 : decode cX2_deeper 83 = .ok (.iload 5, 2) := dX2_deeper_r58.2.2.2.2.2.2.2.2.2.2.2.2.2.2.2.1
theorem dX2_deeper_r85 : zdcP cX2_deeper 85 [(.invokevirtual 73, 3), (.aload_n 0, 1), (.iload_n 1, 1), (.iconst 1, 1), (.iadd, 1), (.iload_n 2, 1), (.aload 6, 2), (.invokevirtual 53, 3), (.invokestatic 77, 3), (.invokevirtual 57, 3), (.iinc 5 1, 3), (.goto (-69), 3), (.iload 4, 2), (.ifCond .eq 9, 3), (.aload_n 0, 1), (.iload_n 1, 1)] := zdcA_ok (by decide +kernel)
theorem dX2_deeper_85 : decode cX2_deeper 85 = .ok (.invokevirtual 73, 3) := dX2_deeper_r85.1
theorem dX2_deeper_88 : decode cX2_deeper 88 = .ok (.aload_n 0, 1) := dX2_deeper_r85.2.1
theorem dX2_deeper_89 : decode cX2_deeper 89 = .ok (.iload_n 1, 1) := dX2_deeper_r85.2.2.1
theorem dX2_deeper_90 : decode cX2_deeper 90 = .ok (.iconst 1, 1) := dX2_deeper_r85.2.2.2.1
theorem dX2_deeper_91 : decode cX2_deeper 91 = .ok (.iadd, 1) := dX2_deeper_r85.2.2.2.2.1
theorem dX2_deeper_92 : decode cX2_deeper 92 = .ok (.iload_n 2, 1) := dX2_deeper_r85.2.2.2.2.2.1
theorem dX2_deeper_93 : decode cX2_deeper 93 = .ok (.aload 6, 2) := dX2_deeper_r85.2.2.2.2.2.2.1
theorem dX2_deeper_95 : decode cX2_deeper 95 = .ok (.invokevirtual 53, 3) := dX2_deeper_r85.2.2.2.2.2.2.2.1
theorem dX2_deeper_98 : decode cX2_deeper 98 = .ok (.invokestatic 77, 3) := dX2_deeper_r85.2.2.2.2.2.2.2.2.1
theorem dX2_deeper_101 : decode cX2_deeper 101 = .ok (.invokevirtual 57, 3) := dX2_deeper_r85.2.2.2.2.2.2.2.2.2.1
theorem dX2_deeper_104 : decode cX2_deeper 104 = .ok (.iinc 5 1, 3) := dX2_deeper_r85.2.2.2.2.2.2.2.2.2.2.1
theorem dX2_deeper_107 : decode cX2_deeper 107 = .ok (.goto (-69), 3) := dX2_deeper_r85.2.2.2.2.2.2.2.2.2.2.2.1
theorem dX2_deeper_110 : decode cX2_deeper 110 = .ok (.iload 4, 2) := dX2_deeper_r85.2.2.2.2.2.2.2.2.2.2.2.2.1
theorem dX2_deeper_112 : decode cX2_deeper 112 = .ok (.ifCond .eq 9, 3) := dX2_deeper_r85.2.2.2.2.2.2.2.2.2.2.2.2.2.1
theorem dX2_deeper_115 : decode cX2_deeper 115 = .ok (.aload_n 0, 1) := dX2_deeper_r85.2.2.2.2.2.2.2.2.2.2.2.2.2.2.1
theorem dX2_deeper_116 : decode cX2_deeper 116 = .ok (.iload_n 1, 1) := dX2_deeper_r85.2.2.2.2.2.2.2.2.2.2.2.2.2.2.2.1
theorem dX2_deeper_r117 : zdcP cX2_deeper 117 [(.iload_n 2, 1), (.invokevirtual 80, 3), (.return_, 1)] := zdcA_ok (by decide +kernel)
theorem dX2_deeper_117 : decode cX2_deeper 117 = .ok (.iload_n 2, 1) := dX2_deeper_r117.1
theorem dX2_deeper_118 : decode cX2_deeper 118 = .ok (.invokevirtual 80, 3) := dX2_deeper_r117.2.1
theorem dX2_deeper_121 : decode cX2_deeper 121 = .ok (.return_, 1) := dX2_deeper_r117.2.2.1
def wq_15_110 (R : Int32 → Int32 → zf_Me → (zf_Me → Prop) → Prop) (v1 : Int32) (v2 : Int32) (v4 : Int32) (m : zf_Me) (Q : zf_Me → Prop) : Prop := ((v4.toInt = 0 → Q m) ∧ (¬ v4.toInt = 0 → wp_17 v1 v2 m (fun m6 => Q m6)))
theorem zq_15_110 {e : Nat} (hd : 3 ≤ e) {R : Int32 → Int32 → zf_Me → (zf_Me → Prop) → Prop} (hR : ∀ (v1 : Int32) (v2 : Int32) (m : zf_Me) (Q : zf_Me → Prop), R v1 v2 m Q → zf_M e 15 [.inr (.inr (1, 21)), .inl v1, .inl v2] m (zf_O Q)) {v1 : Int32} {v2 : Int32} {Q : zf_Me → Prop} {v4 : Int32} {m : zf_Me} (h : wq_15_110 R v1 v2 v4 m Q) : zf_W none 0 0 (e + 1) zt_15 110 [some (.inr (.inr (1, 21))), some (.inl v1), some (.inl v2), none, some (.inl v4), none, none] [] m (zf_O Q) := by
  unfold wq_15_110 at h
  refine zf_ld (pc' := 112) (v := .inl v4) dX2_deeper_110 rfl (fun _ _ _ => rfl) rfl rfl rfl ?_
  refine zf_if_eq (tgt := 121) (pc' := 115) dX2_deeper_112 rfl rfl (fun g => ?_) (fun g => ?_)
  · replace h := h.1 g
    exact zf_rv dX2_deeper_121 rfl h
  · replace h := h.2 g
    refine zf_ld (pc' := 116) (v := .inr (.inr (1, 21))) dX2_deeper_115 rfl (fun _ _ _ => rfl) rfl rfl rfl ?_
    refine zf_ld (pc' := 117) (v := .inl v1) dX2_deeper_116 rfl (fun _ _ _ => rfl) rfl rfl rfl ?_
    refine zf_ld (pc' := 118) (v := .inl v2) dX2_deeper_117 rfl (fun _ _ _ => rfl) rfl rfl rfl ?_
    refine zf_iv (k := 17) (pc' := 121) (r := []) dX2_deeper_118 rfl rfl rfl rfl (by decide) rfl rfl rfl (zr_17 (by omega) h) (zf_kO (fun m6 h => ?_))
    exact zf_rv dX2_deeper_121 rfl h
def wq_15_38 (R : Int32 → Int32 → zf_Me → (zf_Me → Prop) → Prop) (v1 : Int32) (v2 : Int32) (Q : zf_Me → Prop) : Nat → Int32 → Int32 → zf_Me → Prop
  | 0, _, _, _ => False
  | n + 1, v4, v5, m => ((v5.toInt ≥ 10 → wq_15_110 R v1 v2 v4 m Q) ∧ (v5.toInt < 10 → wp_52 (25 + 2 * (Int32.toInt v1).toNat) 3 (26 + 2 * (Int32.toInt v1).toNat) v5 m (fun b9 m10 => ((b9 = false → wq_15_38 R v1 v2 Q n v4 (v5 + 1) m10) ∧ (b9 = true → ((0 ≤ (Int32.toInt v1) ∧ (Int32.toInt v1) < (4 : Int)) ∧ ∀ m11, m11 = zf_u m10 23 (Int32.toInt v1).toNat v5 → ((0 ≤ (Int32.toInt (v1 + 1)) ∧ (Int32.toInt (v1 + 1)) < 5) ∧ wp_43 (25 + 2 * (Int32.toInt (v1 + 1)).toNat) 3 (26 + 2 * (Int32.toInt (v1 + 1)).toNat) (25 + 2 * (Int32.toInt v1).toNat) 3 (26 + 2 * (Int32.toInt v1).toNat) m11 (fun m16 => wp_56 (25 + 2 * (Int32.toInt (v1 + 1)).toNat) 3 (26 + 2 * (Int32.toInt (v1 + 1)).toNat) v5 m16 (fun m18 => wp_49 (25 + 2 * (Int32.toInt (v1 + 1)).toNat) 3 (26 + 2 * (Int32.toInt (v1 + 1)).toNat) m18 (fun x19 m20 => R (v1 + 1) (if v2 < x19 then x19 else v2) m20 (fun m22 => wq_15_38 R v1 v2 Q n 0 (v5 + 1) m22)))))))))))
theorem zq_15_38 {e : Nat} (hd : 3 ≤ e) {R : Int32 → Int32 → zf_Me → (zf_Me → Prop) → Prop} (hR : ∀ (v1 : Int32) (v2 : Int32) (m : zf_Me) (Q : zf_Me → Prop), R v1 v2 m Q → zf_M e 15 [.inr (.inr (1, 21)), .inl v1, .inl v2] m (zf_O Q)) {v1 : Int32} {v2 : Int32} {Q : zf_Me → Prop} (hs3 : zf_walk (25 + 2 * (Int32.toInt v1).toNat) 3 (26 + 2 * (Int32.toInt v1).toNat)) : ∀ (n : Nat) (v4 : Int32) (v5 : Int32) (m : zf_Me), wq_15_38 R v1 v2 Q n v4 v5 m → zf_W none 0 0 (e + 1) zt_15 38 [some (.inr (.inr (1, 21))), some (.inl v1), some (.inl v2), some (.inr (.inr (1, (25 + 2 * (Int32.toInt v1).toNat)))), some (.inl v4), some (.inl v5), none] [] m (zf_O Q) := by
  intro n
  induction n with
  | zero =>
    intro v4 v5 m h
    exact h.elim
  | succ n ih =>
    intro v4 v5 m h
    unfold wq_15_38 at h
    refine zf_ld (pc' := 40) (v := .inl v5) dX2_deeper_38 rfl (fun _ _ _ => rfl) rfl rfl rfl ?_
    refine zf_bi (v := 10) (pc' := 42) dX2_deeper_40 rfl rfl ?_
    refine zf_icmp_ge (tgt := 110) (pc' := 45) dX2_deeper_42 rfl rfl (fun g => ?_) (fun g => ?_)
    · replace h := h.1 g
      exact zf_lo (zq_15_110 (by omega) hR h) ⟨rfl, rfl, rfl, rfl, trivial⟩
    · replace h := h.2 g
      refine zf_ld (pc' := 46) (v := .inr (.inr (1, (25 + 2 * (Int32.toInt v1).toNat)))) dX2_deeper_45 rfl (fun _ _ _ => rfl) rfl rfl rfl ?_
      refine zf_ld (pc' := 48) (v := .inl v5) dX2_deeper_46 rfl (fun _ _ _ => rfl) rfl rfl rfl ?_
      refine zf_iv (k := 52) (pc' := 51) (r := []) dX2_deeper_48 rfl rfl rfl rfl hs3.1 hs3.2.1 rfl rfl (zr_52 (by omega) hs3 h) (zf_kB (fun b9 m10 h => ?_))
      refine zf_ib_eq (tgt := 104) (pc' := 54) dX2_deeper_51 rfl rfl (fun g => ?_) (fun g => ?_)
      · replace h := h.1 g
        refine zf_ii (y := (v5 + 1)) (L2 := [some (.inr (.inr (1, 21))), some (.inl v1), some (.inl v2), some (.inr (.inr (1, (25 + 2 * (Int32.toInt v1).toNat)))), some (.inl v4), some (.inl (v5 + 1)), none]) (pc' := 107) dX2_deeper_104 rfl rfl rfl rfl rfl ?_
        refine zf_goto (tgt := 38) dX2_deeper_107 rfl ?_
        exact zf_lo (ih _ _ _ h) ⟨rfl, rfl, rfl, rfl, rfl, rfl, trivial⟩
      · replace h := h.2 g
        refine zf_ic (v := 0) (pc' := 55) dX2_deeper_54 rfl rfl ?_
        refine zf_st (pc' := 57) (L2 := [some (.inr (.inr (1, 21))), some (.inl v1), some (.inl v2), some (.inr (.inr (1, (25 + 2 * (Int32.toInt v1).toNat)))), some (.inl 0), some (.inl v5), none]) dX2_deeper_55 rfl (fun _ _ _ => rfl) rfl rfl rfl rfl rfl rfl ?_
        refine zf_ld (pc' := 58) (v := .inr (.inr (1, 21))) dX2_deeper_57 rfl (fun _ _ _ => rfl) rfl rfl rfl ?_
        refine zf_gfr (pc' := 61) (b := 23) dX2_deeper_58 rfl rfl (by decide) rfl rfl ?_
        refine zf_ld (pc' := 62) (v := .inl v1) dX2_deeper_61 rfl (fun _ _ _ => rfl) rfl rfl rfl ?_
        refine zf_ld (pc' := 64) (v := .inl v5) dX2_deeper_62 rfl (fun _ _ _ => rfl) rfl rfl rfl ?_
        refine zf_ias (pc' := 65) dX2_deeper_64 rfl (⟨by decide, rfl⟩ : zf_arr 23 4).1 (⟨by decide, rfl⟩ : zf_arr 23 4).2 h.1 rfl (fun m11 e12 => ?_)
        replace h := h.2 m11 e12
        refine zf_ld (pc' := 66) (v := .inr (.inr (1, 21))) dX2_deeper_65 rfl (fun _ _ _ => rfl) rfl rfl rfl ?_
        refine zf_gfr (pc' := 69) (b := 22) dX2_deeper_66 rfl rfl (by decide) rfl rfl ?_
        refine zf_ld (pc' := 70) (v := .inl v1) dX2_deeper_69 rfl (fun _ _ _ => rfl) rfl rfl rfl ?_
        refine zf_ic (v := 1) (pc' := 71) dX2_deeper_70 rfl rfl ?_
        refine zf_in (pc' := 72) (S' := [.inl (v1 + 1), .inr (.inr (1, 22))]) dX2_deeper_71 rfl (fun _ _ _ => rfl) ?_
        refine zf_aal (b := 25) (n := 5) (pc' := 73) dX2_deeper_72 rfl (by decide) rfl (by decide) rfl h.1 zf_row22 ?_
        have hb13 := h.1
        replace h := h.2
        have hx14 : zf_walk (25 + 2 * (Int32.toInt (v1 + 1)).toNat) 3 (26 + 2 * (Int32.toInt (v1 + 1)).toNat) := zf_walks (by omega)
        refine zf_st (pc' := 75) (L2 := [some (.inr (.inr (1, 21))), some (.inl v1), some (.inl v2), some (.inr (.inr (1, (25 + 2 * (Int32.toInt v1).toNat)))), some (.inl 0), some (.inl v5), some (.inr (.inr (1, (25 + 2 * (Int32.toInt (v1 + 1)).toNat))))]) dX2_deeper_73 rfl (fun _ _ _ => rfl) rfl rfl rfl rfl rfl rfl ?_
        refine zf_ld (pc' := 77) (v := .inr (.inr (1, (25 + 2 * (Int32.toInt (v1 + 1)).toNat)))) dX2_deeper_75 rfl (fun _ _ _ => rfl) rfl rfl rfl ?_
        refine zf_ld (pc' := 78) (v := .inr (.inr (1, (25 + 2 * (Int32.toInt v1).toNat)))) dX2_deeper_77 rfl (fun _ _ _ => rfl) rfl rfl rfl ?_
        refine zf_iv (k := 43) (pc' := 81) (r := []) dX2_deeper_78 rfl rfl rfl rfl hx14.1 hx14.2.1 rfl rfl (zr_43 (by omega) hx14 hs3 h) (zf_kO (fun m16 h => ?_))
        refine zf_ld (pc' := 83) (v := .inr (.inr (1, (25 + 2 * (Int32.toInt (v1 + 1)).toNat)))) dX2_deeper_81 rfl (fun _ _ _ => rfl) rfl rfl rfl ?_
        refine zf_ld (pc' := 85) (v := .inl v5) dX2_deeper_83 rfl (fun _ _ _ => rfl) rfl rfl rfl ?_
        refine zf_iv (k := 56) (pc' := 88) (r := []) dX2_deeper_85 rfl rfl rfl rfl hx14.1 hx14.2.1 rfl rfl (zr_56 (by omega) hx14 h) (zf_kO (fun m18 h => ?_))
        refine zf_ld (pc' := 89) (v := .inr (.inr (1, 21))) dX2_deeper_88 rfl (fun _ _ _ => rfl) rfl rfl rfl ?_
        refine zf_ld (pc' := 90) (v := .inl v1) dX2_deeper_89 rfl (fun _ _ _ => rfl) rfl rfl rfl ?_
        refine zf_ic (v := 1) (pc' := 91) dX2_deeper_90 rfl rfl ?_
        refine zf_in (pc' := 92) (S' := [.inl (v1 + 1), .inr (.inr (1, 21))]) dX2_deeper_91 rfl (fun _ _ _ => rfl) ?_
        refine zf_ld (pc' := 93) (v := .inl v2) dX2_deeper_92 rfl (fun _ _ _ => rfl) rfl rfl rfl ?_
        refine zf_ld (pc' := 95) (v := .inr (.inr (1, (25 + 2 * (Int32.toInt (v1 + 1)).toNat)))) dX2_deeper_93 rfl (fun _ _ _ => rfl) rfl rfl rfl ?_
        refine zf_iv (k := 49) (pc' := 98) (r := [.inl v2, .inl (v1 + 1), .inr (.inr (1, 21))]) dX2_deeper_95 rfl rfl rfl rfl hx14.1 hx14.2.1 rfl rfl (zr_49 (by omega) hx14 h) (zf_kI (fun x19 m20 h => ?_))
        refine zf_max (pc' := 101) dX2_deeper_98 rfl rfl rfl ?_
        refine zf_iv (k := 15) (pc' := 104) (r := []) dX2_deeper_101 rfl rfl rfl rfl (by decide) rfl rfl rfl (hR _ _ _ _ h) (zf_kO (fun m22 h => ?_))
        refine zf_ii (y := (v5 + 1)) (L2 := [some (.inr (.inr (1, 21))), some (.inl v1), some (.inl v2), some (.inr (.inr (1, (25 + 2 * (Int32.toInt v1).toNat)))), some (.inl 0), some (.inl (v5 + 1)), some (.inr (.inr (1, (25 + 2 * (Int32.toInt (v1 + 1)).toNat))))]) (pc' := 107) dX2_deeper_104 rfl rfl rfl rfl rfl ?_
        refine zf_goto (tgt := 38) dX2_deeper_107 rfl ?_
        exact zf_lo (ih _ _ _ h) ⟨rfl, rfl, rfl, rfl, rfl, rfl, trivial⟩
def wb_15 (R : Int32 → Int32 → zf_Me → (zf_Me → Prop) → Prop) (v1 : Int32) (v2 : Int32) (m : zf_Me) (Q : zf_Me → Prop) : Prop := wp_16 v1 v2 m (fun b1 m2 => ((b1 = false → ((0 ≤ (Int32.toInt v1) ∧ (Int32.toInt v1) < 5) ∧ ((v1.toInt ≥ ((m2.1 21 3)).toInt → wq_15_110 R v1 v2 1 m2 Q) ∧ (v1.toInt < ((m2.1 21 3)).toInt → wp_47 (25 + 2 * (Int32.toInt v1).toNat) 3 (26 + 2 * (Int32.toInt v1).toNat) m2 (fun b7 m8 => ((b7 = true → wq_15_110 R v1 v2 1 m8 Q) ∧ (b7 = false → (∃ n38, wq_15_38 R v1 v2 Q n38 1 0 m8)))))))) ∧ (b1 = true → Q m2)))
theorem zb_15 {e : Nat} (hd : 3 ≤ e) {R : Int32 → Int32 → zf_Me → (zf_Me → Prop) → Prop} (hR : ∀ (v1 : Int32) (v2 : Int32) (m : zf_Me) (Q : zf_Me → Prop), R v1 v2 m Q → zf_M e 15 [.inr (.inr (1, 21)), .inl v1, .inl v2] m (zf_O Q)) {v1 : Int32} {v2 : Int32} {Q : zf_Me → Prop} {m : zf_Me} (h : wb_15 R v1 v2 m Q) : zf_M (e + 1) 15 [.inr (.inr (1, 21)), .inl v1, .inl v2] m (zf_O Q) := by
  unfold wb_15 at h
  refine zf_M_of (Nat.le_of_ble_eq_true rfl) zm_15 (L := [some (.inr (.inr (1, 21))), some (.inl v1), some (.inl v2), none, none, none, none]) rfl ?_
  refine zf_ld (pc' := 1) (v := .inr (.inr (1, 21))) dX2_deeper_0 rfl (fun _ _ _ => rfl) rfl rfl rfl ?_
  refine zf_ld (pc' := 2) (v := .inl v1) dX2_deeper_1 rfl (fun _ _ _ => rfl) rfl rfl rfl ?_
  refine zf_ld (pc' := 3) (v := .inl v2) dX2_deeper_2 rfl (fun _ _ _ => rfl) rfl rfl rfl ?_
  refine zf_iv (k := 16) (pc' := 6) (r := []) dX2_deeper_3 rfl rfl rfl rfl (by decide) rfl rfl rfl (zr_16 (by omega) h) (zf_kB (fun b1 m2 h => ?_))
  refine zf_ib_eq (tgt := 10) (pc' := 9) dX2_deeper_6 rfl rfl (fun g => ?_) (fun g => ?_)
  · replace h := h.1 g
    refine zf_ld (pc' := 11) (v := .inr (.inr (1, 21))) dX2_deeper_10 rfl (fun _ _ _ => rfl) rfl rfl rfl ?_
    refine zf_gfr (pc' := 14) (b := 22) dX2_deeper_11 rfl rfl (by decide) rfl rfl ?_
    refine zf_ld (pc' := 15) (v := .inl v1) dX2_deeper_14 rfl (fun _ _ _ => rfl) rfl rfl rfl ?_
    refine zf_aal (b := 25) (n := 5) (pc' := 16) dX2_deeper_15 rfl (by decide) rfl (by decide) rfl h.1 zf_row22 ?_
    have hb3 := h.1
    replace h := h.2
    have hx4 : zf_walk (25 + 2 * (Int32.toInt v1).toNat) 3 (26 + 2 * (Int32.toInt v1).toNat) := zf_walks (by omega)
    refine zf_st (pc' := 17) (L2 := [some (.inr (.inr (1, 21))), some (.inl v1), some (.inl v2), some (.inr (.inr (1, (25 + 2 * (Int32.toInt v1).toNat)))), none, none, none]) dX2_deeper_16 rfl (fun _ _ _ => rfl) rfl rfl rfl rfl rfl rfl ?_
    refine zf_ic (v := 1) (pc' := 18) dX2_deeper_17 rfl rfl ?_
    refine zf_st (pc' := 20) (L2 := [some (.inr (.inr (1, 21))), some (.inl v1), some (.inl v2), some (.inr (.inr (1, (25 + 2 * (Int32.toInt v1).toNat)))), some (.inl 1), none, none]) dX2_deeper_18 rfl (fun _ _ _ => rfl) rfl rfl rfl rfl rfl rfl ?_
    refine zf_ld (pc' := 21) (v := .inl v1) dX2_deeper_20 rfl (fun _ _ _ => rfl) rfl rfl rfl ?_
    refine zf_ld (pc' := 22) (v := .inr (.inr (1, 21))) dX2_deeper_21 rfl (fun _ _ _ => rfl) rfl rfl rfl ?_
    refine zf_gfi (pc' := 25) dX2_deeper_22 rfl rfl (by decide) rfl rfl ?_
    refine zf_icmp_ge (tgt := 110) (pc' := 28) dX2_deeper_25 rfl rfl (fun g => ?_) (fun g => ?_)
    · replace h := h.1 g
      exact zf_lo (zq_15_110 (by omega) hR h) ⟨rfl, rfl, rfl, rfl, trivial⟩
    · replace h := h.2 g
      refine zf_ld (pc' := 29) (v := .inr (.inr (1, (25 + 2 * (Int32.toInt v1).toNat)))) dX2_deeper_28 rfl (fun _ _ _ => rfl) rfl rfl rfl ?_
      refine zf_iv (k := 47) (pc' := 32) (r := []) dX2_deeper_29 rfl rfl rfl rfl hx4.1 hx4.2.1 rfl rfl (zr_47 (by omega) hx4 h) (zf_kB (fun b7 m8 h => ?_))
      refine zf_ib_ne (tgt := 110) (pc' := 35) dX2_deeper_32 rfl rfl (fun g => ?_) (fun g => ?_)
      · replace h := h.1 g
        exact zf_lo (zq_15_110 (by omega) hR h) ⟨rfl, rfl, rfl, rfl, trivial⟩
      · replace h := h.2 g
        refine zf_ic (v := 0) (pc' := 36) dX2_deeper_35 rfl rfl ?_
        refine zf_st (pc' := 38) (L2 := [some (.inr (.inr (1, 21))), some (.inl v1), some (.inl v2), some (.inr (.inr (1, (25 + 2 * (Int32.toInt v1).toNat)))), some (.inl 1), some (.inl 0), none]) dX2_deeper_36 rfl (fun _ _ _ => rfl) rfl rfl rfl rfl rfl rfl ?_
        obtain ⟨n38, h⟩ := h
        exact zf_lo (zq_15_38 (by omega) hR hx4 n38 _ _ _ h) ⟨rfl, rfl, rfl, rfl, rfl, rfl, trivial⟩
  · replace h := h.2 g
    exact zf_rv dX2_deeper_9 rfl h
def wp_15 : Nat → Int32 → Int32 → zf_Me → (zf_Me → Prop) → Prop
  | 0, _, _, _, _ => False
  | n + 1, v1, v2, m, Q => wb_15 (wp_15 n) v1 v2 m Q
theorem zr_15 : ∀ (n : Nat) {d : Nat} (_ : 1 * n + 6 ≤ d) {v1 : Int32} {v2 : Int32} {m : zf_Me} {Q : zf_Me → Prop} (_ : wp_15 n v1 v2 m Q), zf_M d 15 [.inr (.inr (1, 21)), .inl v1, .inl v2] m (zf_O Q) := by
  intro n
  induction n with
  | zero => intro d _ _ _ m Q h; exact h.elim
  | succ n ih =>
    intro d hd _ _ m Q h
    obtain ⟨e, rfl⟩ : ∃ z, d = z + 1 := ⟨d - 1, by omega⟩
    exact zb_15 (e := e) (R := wp_15 n) (by omega) (fun _ _ m Q h => ih (by omega) h) h
def zt_14 : zx_MT := (2, yX2_look, cX2_look, 3, none, 2, 0)
theorem zm_14 : zx_m 14 = zt_14 := rfl
theorem dX2_look_r0 : zdcP cX2_look 0 [(.aload_n 0, 1), (.iload_n 2, 1), (.iconst 4, 1), (.invokestatic 43, 3), (.putfield 24, 3), (.aload_n 0, 1), (.iconst (-1), 1), (.putfield 31, 3), (.aload_n 0, 1), (.getfield 13, 3), (.iconst 0, 1), (.aaload, 1), (.aload_n 1, 1), (.invokevirtual 49, 3), (.aload_n 0, 1), (.iconst 0, 1)] := zdcA_ok (by decide +kernel)
theorem dX2_look_0 : decode cX2_look 0 = .ok (.aload_n 0, 1) := dX2_look_r0.1
theorem dX2_look_1 : decode cX2_look 1 = .ok (.iload_n 2, 1) := dX2_look_r0.2.1
theorem dX2_look_2 : decode cX2_look 2 = .ok (.iconst 4, 1) := dX2_look_r0.2.2.1
theorem dX2_look_3 : decode cX2_look 3 = .ok (.invokestatic 43, 3) := dX2_look_r0.2.2.2.1
theorem dX2_look_6 : decode cX2_look 6 = .ok (.putfield 24, 3) := dX2_look_r0.2.2.2.2.1
theorem dX2_look_9 : decode cX2_look 9 = .ok (.aload_n 0, 1) := dX2_look_r0.2.2.2.2.2.1
theorem dX2_look_10 : decode cX2_look 10 = .ok (.iconst (-1), 1) := dX2_look_r0.2.2.2.2.2.2.1
theorem dX2_look_11 : decode cX2_look 11 = .ok (.putfield 31, 3) := dX2_look_r0.2.2.2.2.2.2.2.1
theorem dX2_look_14 : decode cX2_look 14 = .ok (.aload_n 0, 1) := dX2_look_r0.2.2.2.2.2.2.2.2.1
theorem dX2_look_15 : decode cX2_look 15 = .ok (.getfield 13, 3) := dX2_look_r0.2.2.2.2.2.2.2.2.2.1
theorem dX2_look_18 : decode cX2_look 18 = .ok (.iconst 0, 1) := dX2_look_r0.2.2.2.2.2.2.2.2.2.2.1
theorem dX2_look_19 : decode cX2_look 19 = .ok (.aaload, 1) := dX2_look_r0.2.2.2.2.2.2.2.2.2.2.2.1
theorem dX2_look_20 : decode cX2_look 20 = .ok (.aload_n 1, 1) := dX2_look_r0.2.2.2.2.2.2.2.2.2.2.2.2.1
theorem dX2_look_21 : decode cX2_look 21 = .ok (.invokevirtual 49, 3) := dX2_look_r0.2.2.2.2.2.2.2.2.2.2.2.2.2.1
theorem dX2_look_24 : decode cX2_look 24 = .ok (.aload_n 0, 1) := dX2_look_r0.2.2.2.2.2.2.2.2.2.2.2.2.2.2.1
theorem dX2_look_25 : decode cX2_look 25 = .ok (.iconst 0, 1) := dX2_look_r0.2.2.2.2.2.2.2.2.2.2.2.2.2.2.2.1
theorem dX2_look_r26 : zdcP cX2_look 26 [(.aload_n 1, 1), (.invokevirtual 53, 3), (.invokevirtual 57, 3), (.return_, 1)] := zdcA_ok (by decide +kernel)
theorem dX2_look_26 : decode cX2_look 26 = .ok (.aload_n 1, 1) := dX2_look_r26.1
theorem dX2_look_27 : decode cX2_look 27 = .ok (.invokevirtual 53, 3) := dX2_look_r26.2.1
theorem dX2_look_30 : decode cX2_look 30 = .ok (.invokevirtual 57, 3) := dX2_look_r26.2.2.1
theorem dX2_look_33 : decode cX2_look 33 = .ok (.return_, 1) := dX2_look_r26.2.2.2.1
def wp_14 (w1 : Nat) (y1 : Nat) (r1 : Nat) (v2 : Int32) (m : zf_Me) (Q : zf_Me → Prop) : Prop := (∀ m1, m1 = zf_u m 21 3 (if 4 < v2 then 4 else v2) → (∀ m3, m3 = zf_u m1 21 5 (-1) → ((0 ≤ (Int32.toInt 0) ∧ (Int32.toInt 0) < 5) ∧ wp_43 (25 + 2 * (Int32.toInt 0).toNat) 3 (26 + 2 * (Int32.toInt 0).toNat) w1 y1 r1 m3 (fun m8 => wp_49 w1 y1 r1 m8 (fun x9 m10 => (∃ nz11, nz11 ≤ 6 ∧ wp_15 nz11 0 x9 m10 (fun m12 => Q m12)))))))
theorem zr_14 {d : Nat} (hd : 13 ≤ d) {w1 : Nat} {y1 : Nat} {r1 : Nat} (hp1 : zf_walk w1 y1 r1) {v2 : Int32} {Q : zf_Me → Prop} {m : zf_Me} (h : wp_14 w1 y1 r1 v2 m Q) : zf_M d 14 [.inr (.inr (1, 21)), .inr (.inr (1, w1)), .inl v2] m (zf_O Q) := by
  obtain ⟨e, rfl⟩ : ∃ z, d = z + 1 := ⟨d - 1, by omega⟩
  unfold wp_14 at h
  refine zf_M_of (Nat.le_of_ble_eq_true rfl) zm_14 (L := [some (.inr (.inr (1, 21))), some (.inr (.inr (1, w1))), some (.inl v2)]) rfl ?_
  refine zf_ld (pc' := 1) (v := .inr (.inr (1, 21))) dX2_look_0 rfl (fun _ _ _ => rfl) rfl rfl rfl ?_
  refine zf_ld (pc' := 2) (v := .inl v2) dX2_look_1 rfl (fun _ _ _ => rfl) rfl rfl rfl ?_
  refine zf_ic (v := 4) (pc' := 3) dX2_look_2 rfl rfl ?_
  refine zf_min (pc' := 6) dX2_look_3 rfl rfl rfl ?_
  refine zf_pf (pc' := 9) dX2_look_6 rfl rfl (by decide) rfl rfl rfl (fun m1 e2 => ?_)
  replace h := h m1 e2
  refine zf_ld (pc' := 10) (v := .inr (.inr (1, 21))) dX2_look_9 rfl (fun _ _ _ => rfl) rfl rfl rfl ?_
  refine zf_ic (v := (-1)) (pc' := 11) dX2_look_10 rfl rfl ?_
  refine zf_pf (pc' := 14) dX2_look_11 rfl rfl (by decide) rfl rfl rfl (fun m3 e4 => ?_)
  replace h := h m3 e4
  refine zf_ld (pc' := 15) (v := .inr (.inr (1, 21))) dX2_look_14 rfl (fun _ _ _ => rfl) rfl rfl rfl ?_
  refine zf_gfr (pc' := 18) (b := 22) dX2_look_15 rfl rfl (by decide) rfl rfl ?_
  refine zf_ic (v := 0) (pc' := 19) dX2_look_18 rfl rfl ?_
  refine zf_aal (b := 25) (n := 5) (pc' := 20) dX2_look_19 rfl (by decide) rfl (by decide) rfl h.1 zf_row22 ?_
  have hb5 := h.1
  replace h := h.2
  have hx6 : zf_walk (25 + 2 * (Int32.toInt 0).toNat) 3 (26 + 2 * (Int32.toInt 0).toNat) := zf_walks (by omega)
  refine zf_ld (pc' := 21) (v := .inr (.inr (1, w1))) dX2_look_20 rfl (fun _ _ _ => rfl) rfl rfl rfl ?_
  refine zf_iv (k := 43) (pc' := 24) (r := []) dX2_look_21 rfl rfl rfl rfl hx6.1 hx6.2.1 rfl rfl (zr_43 (by omega) hx6 hp1 h) (zf_kO (fun m8 h => ?_))
  refine zf_ld (pc' := 25) (v := .inr (.inr (1, 21))) dX2_look_24 rfl (fun _ _ _ => rfl) rfl rfl rfl ?_
  refine zf_ic (v := 0) (pc' := 26) dX2_look_25 rfl rfl ?_
  refine zf_ld (pc' := 27) (v := .inr (.inr (1, w1))) dX2_look_26 rfl (fun _ _ _ => rfl) rfl rfl rfl ?_
  refine zf_iv (k := 49) (pc' := 30) (r := [.inl 0, .inr (.inr (1, 21))]) dX2_look_27 rfl rfl rfl rfl hp1.1 hp1.2.1 rfl rfl (zr_49 (by omega) hp1 h) (zf_kI (fun x9 m10 h => ?_))
  obtain ⟨nz11, hnz11, h⟩ := h
  refine zf_iv (k := 15) (pc' := 33) (r := []) dX2_look_30 rfl rfl rfl rfl (by decide) rfl rfl rfl (zr_15 nz11 (by omega) h) (zf_kO (fun m12 h => ?_))
  exact zf_rv dX2_look_33 rfl h
def zt_19 : zx_MT := (3, yX3_holdsRow, cX3_holdsRow, 1, (some FieldType.boolean), 0, 0)
theorem zm_19 : zx_m 19 = zt_19 := rfl
theorem dX3_holdsRow_r0 : zdcP cX3_holdsRow 0 [(.aload_n 0, 1), (.getfield 15, 3), (.bipush 100, 2), (.if_icmp .lt 7, 3), (.iconst 1, 1), (.goto 4, 3), (.iconst 0, 1), (.ireturn, 1)] := zdcA_ok (by decide +kernel)
theorem dX3_holdsRow_0 : decode cX3_holdsRow 0 = .ok (.aload_n 0, 1) := dX3_holdsRow_r0.1
theorem dX3_holdsRow_1 : decode cX3_holdsRow 1 = .ok (.getfield 15, 3) := dX3_holdsRow_r0.2.1
theorem dX3_holdsRow_4 : decode cX3_holdsRow 4 = .ok (.bipush 100, 2) := dX3_holdsRow_r0.2.2.1
theorem dX3_holdsRow_6 : decode cX3_holdsRow 6 = .ok (.if_icmp .lt 7, 3) := dX3_holdsRow_r0.2.2.2.1
theorem dX3_holdsRow_9 : decode cX3_holdsRow 9 = .ok (.iconst 1, 1) := dX3_holdsRow_r0.2.2.2.2.1
theorem dX3_holdsRow_10 : decode cX3_holdsRow 10 = .ok (.goto 4, 3) := dX3_holdsRow_r0.2.2.2.2.2.1
theorem dX3_holdsRow_13 : decode cX3_holdsRow 13 = .ok (.iconst 0, 1) := dX3_holdsRow_r0.2.2.2.2.2.2.1
theorem dX3_holdsRow_14 : decode cX3_holdsRow 14 = .ok (.ireturn, 1) := dX3_holdsRow_r0.2.2.2.2.2.2.2.1
def wp_19 (c0 : Nat) (r0 : Nat) (m : zf_Me) (Q : Bool → zf_Me → Prop) : Prop := ((((m.1 c0 1)).toInt < 100 → Q false m) ∧ (((m.1 c0 1)).toInt ≥ 100 → Q true m))
theorem zr_19 {d : Nat} (hd : 0 ≤ d) {c0 : Nat} {r0 : Nat} (hp0 : zf_shelf c0 r0) {Q : Bool → zf_Me → Prop} {m : zf_Me} (h : wp_19 c0 r0 m Q) : zf_M d 19 [.inr (.inr (1, c0))] m (zf_B Q) := by
  unfold wp_19 at h
  refine zf_M_of (Nat.le_of_ble_eq_true rfl) zm_19 (L := [some (.inr (.inr (1, c0)))]) rfl ?_
  refine zf_ld (pc' := 1) (v := .inr (.inr (1, c0))) dX3_holdsRow_0 rfl (fun _ _ _ => rfl) rfl rfl rfl ?_
  refine zf_gfi (pc' := 4) dX3_holdsRow_1 rfl rfl hp0.1 hp0.2.1 rfl ?_
  refine zf_bi (v := 100) (pc' := 6) dX3_holdsRow_4 rfl rfl ?_
  refine zf_icmp_lt (tgt := 13) (pc' := 9) dX3_holdsRow_6 rfl rfl (fun g => ?_) (fun g => ?_)
  · replace h := h.1 g
    refine zf_ic (v := 0) (pc' := 14) dX3_holdsRow_13 rfl rfl ?_
    exact zf_rb (b := false) dX3_holdsRow_14 rfl h
  · replace h := h.2 g
    refine zf_ic (v := 1) (pc' := 10) dX3_holdsRow_9 rfl rfl ?_
    refine zf_goto (tgt := 14) dX3_holdsRow_10 rfl ?_
    exact zf_rb (b := true) dX3_holdsRow_14 rfl h
def zt_20 : zx_MT := (3, yX3_hasElement, cX3_hasElement, 2, (some FieldType.boolean), 1, 0)
theorem zm_20 : zx_m 20 = zt_20 := rfl
theorem dX3_hasElement_r0 : zdcP cX3_hasElement 0 [(.iload_n 1, 1), (.ifCond .lt 15, 3), (.iload_n 1, 1), (.aload_n 0, 1), (.getfield 19, 3), (.if_icmp .ge 7, 3), (.iconst 1, 1), (.goto 4, 3), (.iconst 0, 1), (.ireturn, 1)] := zdcA_ok (by decide +kernel)
theorem dX3_hasElement_0 : decode cX3_hasElement 0 = .ok (.iload_n 1, 1) := dX3_hasElement_r0.1
theorem dX3_hasElement_1 : decode cX3_hasElement 1 = .ok (.ifCond .lt 15, 3) := dX3_hasElement_r0.2.1
theorem dX3_hasElement_4 : decode cX3_hasElement 4 = .ok (.iload_n 1, 1) := dX3_hasElement_r0.2.2.1
theorem dX3_hasElement_5 : decode cX3_hasElement 5 = .ok (.aload_n 0, 1) := dX3_hasElement_r0.2.2.2.1
theorem dX3_hasElement_6 : decode cX3_hasElement 6 = .ok (.getfield 19, 3) := dX3_hasElement_r0.2.2.2.2.1
theorem dX3_hasElement_9 : decode cX3_hasElement 9 = .ok (.if_icmp .ge 7, 3) := dX3_hasElement_r0.2.2.2.2.2.1
theorem dX3_hasElement_12 : decode cX3_hasElement 12 = .ok (.iconst 1, 1) := dX3_hasElement_r0.2.2.2.2.2.2.1
theorem dX3_hasElement_13 : decode cX3_hasElement 13 = .ok (.goto 4, 3) := dX3_hasElement_r0.2.2.2.2.2.2.2.1
theorem dX3_hasElement_16 : decode cX3_hasElement 16 = .ok (.iconst 0, 1) := dX3_hasElement_r0.2.2.2.2.2.2.2.2.1
theorem dX3_hasElement_17 : decode cX3_hasElement 17 = .ok (.ireturn, 1) := dX3_hasElement_r0.2.2.2.2.2.2.2.2.2.1
def wp_20 (c0 : Nat) (r0 : Nat) (v1 : Int32) (m : zf_Me) (Q : Bool → zf_Me → Prop) : Prop := ((v1.toInt < 0 → Q false m) ∧ (v1.toInt ≥ 0 → ((v1.toInt ≥ ((m.1 c0 2)).toInt → Q false m) ∧ (v1.toInt < ((m.1 c0 2)).toInt → Q true m))))
theorem zr_20 {d : Nat} (hd : 0 ≤ d) {c0 : Nat} {r0 : Nat} (hp0 : zf_shelf c0 r0) {v1 : Int32} {Q : Bool → zf_Me → Prop} {m : zf_Me} (h : wp_20 c0 r0 v1 m Q) : zf_M d 20 [.inr (.inr (1, c0)), .inl v1] m (zf_B Q) := by
  unfold wp_20 at h
  refine zf_M_of (Nat.le_of_ble_eq_true rfl) zm_20 (L := [some (.inr (.inr (1, c0))), some (.inl v1)]) rfl ?_
  refine zf_ld (pc' := 1) (v := .inl v1) dX3_hasElement_0 rfl (fun _ _ _ => rfl) rfl rfl rfl ?_
  refine zf_if_lt (tgt := 16) (pc' := 4) dX3_hasElement_1 rfl rfl (fun g => ?_) (fun g => ?_)
  · replace h := h.1 g
    refine zf_ic (v := 0) (pc' := 17) dX3_hasElement_16 rfl rfl ?_
    exact zf_rb (b := false) dX3_hasElement_17 rfl h
  · replace h := h.2 g
    refine zf_ld (pc' := 5) (v := .inl v1) dX3_hasElement_4 rfl (fun _ _ _ => rfl) rfl rfl rfl ?_
    refine zf_ld (pc' := 6) (v := .inr (.inr (1, c0))) dX3_hasElement_5 rfl (fun _ _ _ => rfl) rfl rfl rfl ?_
    refine zf_gfi (pc' := 9) dX3_hasElement_6 rfl rfl hp0.1 hp0.2.1 rfl ?_
    refine zf_icmp_ge (tgt := 16) (pc' := 12) dX3_hasElement_9 rfl rfl (fun g => ?_) (fun g => ?_)
    · replace h := h.1 g
      refine zf_ic (v := 0) (pc' := 17) dX3_hasElement_16 rfl rfl ?_
      exact zf_rb (b := false) dX3_hasElement_17 rfl h
    · replace h := h.2 g
      refine zf_ic (v := 1) (pc' := 13) dX3_hasElement_12 rfl rfl ?_
      refine zf_goto (tgt := 17) dX3_hasElement_13 rfl ?_
      exact zf_rb (b := true) dX3_hasElement_17 rfl h
def zt_21 : zx_MT := (3, yX3_hasElements, cX3_hasElements, 3, (some FieldType.boolean), 2, 0)
theorem zm_21 : zx_m 21 = zt_21 := rfl
theorem dX3_hasElements_r0 : zdcP cX3_hasElements 0 [(.iload_n 1, 1), (.ifCond .lt 29, 3), (.iload_n 2, 1), (.ifCond .lt 25, 3), (.iload_n 2, 1), (.aload_n 0, 1), (.getfield 19, 3), (.if_icmp .gt 17, 3), (.iload_n 1, 1), (.aload_n 0, 1), (.getfield 19, 3), (.iload_n 2, 1), (.isub, 1), (.if_icmp .gt 7, 3), (.iconst 1, 1), (.goto 4, 3)] := zdcA_ok (by decide +kernel)
theorem dX3_hasElements_0 : decode cX3_hasElements 0 = .ok (.iload_n 1, 1) := dX3_hasElements_r0.1
theorem dX3_hasElements_1 : decode cX3_hasElements 1 = .ok (.ifCond .lt 29, 3) := dX3_hasElements_r0.2.1
theorem dX3_hasElements_4 : decode cX3_hasElements 4 = .ok (.iload_n 2, 1) := dX3_hasElements_r0.2.2.1
theorem dX3_hasElements_5 : decode cX3_hasElements 5 = .ok (.ifCond .lt 25, 3) := dX3_hasElements_r0.2.2.2.1
theorem dX3_hasElements_8 : decode cX3_hasElements 8 = .ok (.iload_n 2, 1) := dX3_hasElements_r0.2.2.2.2.1
theorem dX3_hasElements_9 : decode cX3_hasElements 9 = .ok (.aload_n 0, 1) := dX3_hasElements_r0.2.2.2.2.2.1
theorem dX3_hasElements_10 : decode cX3_hasElements 10 = .ok (.getfield 19, 3) := dX3_hasElements_r0.2.2.2.2.2.2.1
theorem dX3_hasElements_13 : decode cX3_hasElements 13 = .ok (.if_icmp .gt 17, 3) := dX3_hasElements_r0.2.2.2.2.2.2.2.1
theorem dX3_hasElements_16 : decode cX3_hasElements 16 = .ok (.iload_n 1, 1) := dX3_hasElements_r0.2.2.2.2.2.2.2.2.1
theorem dX3_hasElements_17 : decode cX3_hasElements 17 = .ok (.aload_n 0, 1) := dX3_hasElements_r0.2.2.2.2.2.2.2.2.2.1
theorem dX3_hasElements_18 : decode cX3_hasElements 18 = .ok (.getfield 19, 3) := dX3_hasElements_r0.2.2.2.2.2.2.2.2.2.2.1
theorem dX3_hasElements_21 : decode cX3_hasElements 21 = .ok (.iload_n 2, 1) := dX3_hasElements_r0.2.2.2.2.2.2.2.2.2.2.2.1
theorem dX3_hasElements_22 : decode cX3_hasElements 22 = .ok (.isub, 1) := dX3_hasElements_r0.2.2.2.2.2.2.2.2.2.2.2.2.1
theorem dX3_hasElements_23 : decode cX3_hasElements 23 = .ok (.if_icmp .gt 7, 3) := dX3_hasElements_r0.2.2.2.2.2.2.2.2.2.2.2.2.2.1
theorem dX3_hasElements_26 : decode cX3_hasElements 26 = .ok (.iconst 1, 1) := dX3_hasElements_r0.2.2.2.2.2.2.2.2.2.2.2.2.2.2.1
theorem dX3_hasElements_27 : decode cX3_hasElements 27 = .ok (.goto 4, 3) := dX3_hasElements_r0.2.2.2.2.2.2.2.2.2.2.2.2.2.2.2.1
theorem dX3_hasElements_r30 : zdcP cX3_hasElements 30 [(.iconst 0, 1), (.ireturn, 1)] := zdcA_ok (by decide +kernel)
theorem dX3_hasElements_30 : decode cX3_hasElements 30 = .ok (.iconst 0, 1) := dX3_hasElements_r30.1
theorem dX3_hasElements_31 : decode cX3_hasElements 31 = .ok (.ireturn, 1) := dX3_hasElements_r30.2.1
def wp_21 (c0 : Nat) (r0 : Nat) (v1 : Int32) (v2 : Int32) (m : zf_Me) (Q : Bool → zf_Me → Prop) : Prop := ((v1.toInt < 0 → Q false m) ∧ (v1.toInt ≥ 0 → ((v2.toInt < 0 → Q false m) ∧ (v2.toInt ≥ 0 → ((v2.toInt > ((m.1 c0 2)).toInt → Q false m) ∧ (v2.toInt ≤ ((m.1 c0 2)).toInt → ((v1.toInt > (((m.1 c0 2) - v2)).toInt → Q false m) ∧ (v1.toInt ≤ (((m.1 c0 2) - v2)).toInt → Q true m))))))))
theorem zr_21 {d : Nat} (hd : 0 ≤ d) {c0 : Nat} {r0 : Nat} (hp0 : zf_shelf c0 r0) {v1 : Int32} {v2 : Int32} {Q : Bool → zf_Me → Prop} {m : zf_Me} (h : wp_21 c0 r0 v1 v2 m Q) : zf_M d 21 [.inr (.inr (1, c0)), .inl v1, .inl v2] m (zf_B Q) := by
  unfold wp_21 at h
  refine zf_M_of (Nat.le_of_ble_eq_true rfl) zm_21 (L := [some (.inr (.inr (1, c0))), some (.inl v1), some (.inl v2)]) rfl ?_
  refine zf_ld (pc' := 1) (v := .inl v1) dX3_hasElements_0 rfl (fun _ _ _ => rfl) rfl rfl rfl ?_
  refine zf_if_lt (tgt := 30) (pc' := 4) dX3_hasElements_1 rfl rfl (fun g => ?_) (fun g => ?_)
  · replace h := h.1 g
    refine zf_ic (v := 0) (pc' := 31) dX3_hasElements_30 rfl rfl ?_
    exact zf_rb (b := false) dX3_hasElements_31 rfl h
  · replace h := h.2 g
    refine zf_ld (pc' := 5) (v := .inl v2) dX3_hasElements_4 rfl (fun _ _ _ => rfl) rfl rfl rfl ?_
    refine zf_if_lt (tgt := 30) (pc' := 8) dX3_hasElements_5 rfl rfl (fun g => ?_) (fun g => ?_)
    · replace h := h.1 g
      refine zf_ic (v := 0) (pc' := 31) dX3_hasElements_30 rfl rfl ?_
      exact zf_rb (b := false) dX3_hasElements_31 rfl h
    · replace h := h.2 g
      refine zf_ld (pc' := 9) (v := .inl v2) dX3_hasElements_8 rfl (fun _ _ _ => rfl) rfl rfl rfl ?_
      refine zf_ld (pc' := 10) (v := .inr (.inr (1, c0))) dX3_hasElements_9 rfl (fun _ _ _ => rfl) rfl rfl rfl ?_
      refine zf_gfi (pc' := 13) dX3_hasElements_10 rfl rfl hp0.1 hp0.2.1 rfl ?_
      refine zf_icmp_gt (tgt := 30) (pc' := 16) dX3_hasElements_13 rfl rfl (fun g => ?_) (fun g => ?_)
      · replace h := h.1 g
        refine zf_ic (v := 0) (pc' := 31) dX3_hasElements_30 rfl rfl ?_
        exact zf_rb (b := false) dX3_hasElements_31 rfl h
      · replace h := h.2 g
        refine zf_ld (pc' := 17) (v := .inl v1) dX3_hasElements_16 rfl (fun _ _ _ => rfl) rfl rfl rfl ?_
        refine zf_ld (pc' := 18) (v := .inr (.inr (1, c0))) dX3_hasElements_17 rfl (fun _ _ _ => rfl) rfl rfl rfl ?_
        refine zf_gfi (pc' := 21) dX3_hasElements_18 rfl rfl hp0.1 hp0.2.1 rfl ?_
        refine zf_ld (pc' := 22) (v := .inl v2) dX3_hasElements_21 rfl (fun _ _ _ => rfl) rfl rfl rfl ?_
        refine zf_in (pc' := 23) (S' := [.inl ((m.1 c0 2) - v2), .inl v1]) dX3_hasElements_22 rfl (fun _ _ _ => rfl) ?_
        refine zf_icmp_gt (tgt := 30) (pc' := 26) dX3_hasElements_23 rfl rfl (fun g => ?_) (fun g => ?_)
        · replace h := h.1 g
          refine zf_ic (v := 0) (pc' := 31) dX3_hasElements_30 rfl rfl ?_
          exact zf_rb (b := false) dX3_hasElements_31 rfl h
        · replace h := h.2 g
          refine zf_ic (v := 1) (pc' := 27) dX3_hasElements_26 rfl rfl ?_
          refine zf_goto (tgt := 31) dX3_hasElements_27 rfl ?_
          exact zf_rb (b := true) dX3_hasElements_31 rfl h
def zt_22 : zx_MT := (3, yX3_makeRow, cX3_makeRow, 4, none, 2, 0)
theorem zm_22 : zx_m 22 = zt_22 := rfl
theorem dX3_makeRow_r0 : zdcP cX3_makeRow 0 [(.aload_n 0, 1), (.bipush 100, 2), (.iload_n 1, 1), (.iadd, 1), (.putfield 15, 3), (.aload_n 0, 1), (.iload_n 2, 1), (.putfield 19, 3), (.iconst 0, 1), (.istore_n 3, 1), (.iload_n 3, 1), (.iload_n 2, 1), (.if_icmp .ge 16, 3), (.aload_n 0, 1), (.getfield 9, 3), (.iload_n 3, 1)] := zdcA_ok (by decide +kernel)
theorem dX3_makeRow_0 : decode cX3_makeRow 0 = .ok (.aload_n 0, 1) := dX3_makeRow_r0.1
theorem dX3_makeRow_1 : decode cX3_makeRow 1 = .ok (.bipush 100, 2) := dX3_makeRow_r0.2.1
theorem dX3_makeRow_3 : decode cX3_makeRow 3 = .ok (.iload_n 1, 1) := dX3_makeRow_r0.2.2.1
theorem dX3_makeRow_4 : decode cX3_makeRow 4 = .ok (.iadd, 1) := dX3_makeRow_r0.2.2.2.1
theorem dX3_makeRow_5 : decode cX3_makeRow 5 = .ok (.putfield 15, 3) := dX3_makeRow_r0.2.2.2.2.1
theorem dX3_makeRow_8 : decode cX3_makeRow 8 = .ok (.aload_n 0, 1) := dX3_makeRow_r0.2.2.2.2.2.1
theorem dX3_makeRow_9 : decode cX3_makeRow 9 = .ok (.iload_n 2, 1) := dX3_makeRow_r0.2.2.2.2.2.2.1
theorem dX3_makeRow_10 : decode cX3_makeRow 10 = .ok (.putfield 19, 3) := dX3_makeRow_r0.2.2.2.2.2.2.2.1
theorem dX3_makeRow_13 : decode cX3_makeRow 13 = .ok (.iconst 0, 1) := dX3_makeRow_r0.2.2.2.2.2.2.2.2.1
theorem dX3_makeRow_14 : decode cX3_makeRow 14 = .ok (.istore_n 3, 1) := dX3_makeRow_r0.2.2.2.2.2.2.2.2.2.1
theorem dX3_makeRow_15 : decode cX3_makeRow 15 = .ok (.iload_n 3, 1) := dX3_makeRow_r0.2.2.2.2.2.2.2.2.2.2.1
theorem dX3_makeRow_16 : decode cX3_makeRow 16 = .ok (.iload_n 2, 1) := dX3_makeRow_r0.2.2.2.2.2.2.2.2.2.2.2.1
theorem dX3_makeRow_17 : decode cX3_makeRow 17 = .ok (.if_icmp .ge 16, 3) := dX3_makeRow_r0.2.2.2.2.2.2.2.2.2.2.2.2.1
theorem dX3_makeRow_20 : decode cX3_makeRow 20 = .ok (.aload_n 0, 1) := dX3_makeRow_r0.2.2.2.2.2.2.2.2.2.2.2.2.2.1
theorem dX3_makeRow_21 : decode cX3_makeRow 21 = .ok (.getfield 9, 3) := dX3_makeRow_r0.2.2.2.2.2.2.2.2.2.2.2.2.2.2.1
theorem dX3_makeRow_24 : decode cX3_makeRow 24 = .ok (.iload_n 3, 1) := dX3_makeRow_r0.2.2.2.2.2.2.2.2.2.2.2.2.2.2.2.1
theorem dX3_makeRow_r25 : zdcP cX3_makeRow 25 [(.lconst 0, 1), (.lastore, 1), (.iinc 3 1, 3), (.goto (-15), 3), (.return_, 1)] := zdcA_ok (by decide +kernel)
theorem dX3_makeRow_25 : decode cX3_makeRow 25 = .ok (.lconst 0, 1) := dX3_makeRow_r25.1
theorem dX3_makeRow_26 : decode cX3_makeRow 26 = .ok (.lastore, 1) := dX3_makeRow_r25.2.1
theorem dX3_makeRow_27 : decode cX3_makeRow 27 = .ok (.iinc 3 1, 3) := dX3_makeRow_r25.2.2.1
theorem dX3_makeRow_30 : decode cX3_makeRow 30 = .ok (.goto (-15), 3) := dX3_makeRow_r25.2.2.2.1
theorem dX3_makeRow_33 : decode cX3_makeRow 33 = .ok (.return_, 1) := dX3_makeRow_r25.2.2.2.2.1
def wq_22_15 (c0 : Nat) (r0 : Nat) (v1 : Int32) (v2 : Int32) (Q : zf_Me → Prop) : Nat → Int32 → zf_Me → Prop
  | 0, _, _ => False
  | n + 1, v3, m => ((v3.toInt ≥ v2.toInt → Q m) ∧ (v3.toInt < v2.toInt → ((0 ≤ (Int32.toInt v3) ∧ (Int32.toInt v3) < (160 : Int)) ∧ ∀ m5, m5 = zf_ul m r0 (Int32.toInt v3).toNat 0 → wq_22_15 c0 r0 v1 v2 Q n (v3 + 1) m5)))
theorem zq_22_15 {d : Nat} (hd : 0 ≤ d) {c0 : Nat} {r0 : Nat} (hp0 : zf_shelf c0 r0) {v1 : Int32} {v2 : Int32} {Q : zf_Me → Prop} : ∀ (n : Nat) (v3 : Int32) (m : zf_Me), wq_22_15 c0 r0 v1 v2 Q n v3 m → zf_W none 0 0 d zt_22 15 [some (.inr (.inr (1, c0))), none, some (.inl v2), some (.inl v3)] [] m (zf_O Q) := by
  intro n
  induction n with
  | zero =>
    intro v3 m h
    exact h.elim
  | succ n ih =>
    intro v3 m h
    unfold wq_22_15 at h
    refine zf_ld (pc' := 16) (v := .inl v3) dX3_makeRow_15 rfl (fun _ _ _ => rfl) rfl rfl rfl ?_
    refine zf_ld (pc' := 17) (v := .inl v2) dX3_makeRow_16 rfl (fun _ _ _ => rfl) rfl rfl rfl ?_
    refine zf_icmp_ge (tgt := 33) (pc' := 20) dX3_makeRow_17 rfl rfl (fun g => ?_) (fun g => ?_)
    · replace h := h.1 g
      exact zf_rv dX3_makeRow_33 rfl h
    · replace h := h.2 g
      refine zf_ld (pc' := 21) (v := .inr (.inr (1, c0))) dX3_makeRow_20 rfl (fun _ _ _ => rfl) rfl rfl rfl ?_
      refine zf_gfr (pc' := 24) (b := r0) dX3_makeRow_21 rfl rfl hp0.1 hp0.2.1 rfl ?_
      refine zf_ld (pc' := 25) (v := .inl v3) dX3_makeRow_24 rfl (fun _ _ _ => rfl) rfl rfl rfl ?_
      refine zf_in (pc' := 26) (S' := [.inr (.inl 0), .inl v3, .inr (.inr (1, r0))]) dX3_makeRow_25 rfl (fun _ _ _ => rfl) ?_
      refine zf_las (pc' := 27) dX3_makeRow_26 rfl hp0.2.2.1 hp0.2.2.2 h.1 rfl (fun m5 e6 => ?_)
      replace h := h.2 m5 e6
      refine zf_ii (y := (v3 + 1)) (L2 := [some (.inr (.inr (1, c0))), none, some (.inl v2), some (.inl (v3 + 1))]) (pc' := 30) dX3_makeRow_27 rfl rfl rfl rfl rfl ?_
      refine zf_goto (tgt := 15) dX3_makeRow_30 rfl ?_
      exact zf_lo (ih _ _ h) ⟨rfl, rfl, rfl, trivial⟩
def wp_22 (c0 : Nat) (r0 : Nat) (v1 : Int32) (v2 : Int32) (m : zf_Me) (Q : zf_Me → Prop) : Prop := (∀ m1, m1 = zf_u m c0 1 (100 + v1) → (∀ m3, m3 = zf_u m1 c0 2 v2 → (∃ n15, wq_22_15 c0 r0 v1 v2 Q n15 0 m3)))
theorem zr_22 {d : Nat} (hd : 0 ≤ d) {c0 : Nat} {r0 : Nat} (hp0 : zf_shelf c0 r0) {v1 : Int32} {v2 : Int32} {Q : zf_Me → Prop} {m : zf_Me} (h : wp_22 c0 r0 v1 v2 m Q) : zf_M d 22 [.inr (.inr (1, c0)), .inl v1, .inl v2] m (zf_O Q) := by
  unfold wp_22 at h
  refine zf_M_of (Nat.le_of_ble_eq_true rfl) zm_22 (L := [some (.inr (.inr (1, c0))), some (.inl v1), some (.inl v2), none]) rfl ?_
  refine zf_ld (pc' := 1) (v := .inr (.inr (1, c0))) dX3_makeRow_0 rfl (fun _ _ _ => rfl) rfl rfl rfl ?_
  refine zf_bi (v := 100) (pc' := 3) dX3_makeRow_1 rfl rfl ?_
  refine zf_ld (pc' := 4) (v := .inl v1) dX3_makeRow_3 rfl (fun _ _ _ => rfl) rfl rfl rfl ?_
  refine zf_in (pc' := 5) (S' := [.inl (100 + v1), .inr (.inr (1, c0))]) dX3_makeRow_4 rfl (fun _ _ _ => rfl) ?_
  refine zf_pf (pc' := 8) dX3_makeRow_5 rfl rfl hp0.1 hp0.2.1 rfl rfl (fun m1 e2 => ?_)
  replace h := h m1 e2
  refine zf_ld (pc' := 9) (v := .inr (.inr (1, c0))) dX3_makeRow_8 rfl (fun _ _ _ => rfl) rfl rfl rfl ?_
  refine zf_ld (pc' := 10) (v := .inl v2) dX3_makeRow_9 rfl (fun _ _ _ => rfl) rfl rfl rfl ?_
  refine zf_pf (pc' := 13) dX3_makeRow_10 rfl rfl hp0.1 hp0.2.1 rfl rfl (fun m3 e4 => ?_)
  replace h := h m3 e4
  refine zf_ic (v := 0) (pc' := 14) dX3_makeRow_13 rfl rfl ?_
  refine zf_st (pc' := 15) (L2 := [some (.inr (.inr (1, c0))), some (.inl v1), some (.inl v2), some (.inl 0)]) dX3_makeRow_14 rfl (fun _ _ _ => rfl) rfl rfl rfl rfl rfl rfl ?_
  obtain ⟨n15, h⟩ := h
  exact zf_lo (zq_22_15 (by omega) hp0 n15 _ _ h) ⟨rfl, rfl, rfl, trivial⟩
def zt_23 : zx_MT := (3, yX3_put, cX3_put, 4, none, 2, 0)
theorem zm_23 : zx_m 23 = zt_23 := rfl
theorem dX3_put_r0 : zdcP cX3_put 0 [(.aload_n 0, 1), (.getfield 15, 3), (.bipush 100, 2), (.isub, 1)] := zdcA_ok (by decide +kernel)
theorem dX3_put_0 : decode cX3_put 0 = .ok (.aload_n 0, 1) := dX3_put_r0.1
theorem dX3_put_1 : decode cX3_put 1 = .ok (.getfield 15, 3) := dX3_put_r0.2.1
theorem dX3_put_4 : decode cX3_put 4 = .ok (.bipush 100, 2) := dX3_put_r0.2.2.1
theorem dX3_put_6 : decode cX3_put 6 = .ok (.isub, 1) := dX3_put_r0.2.2.2.1
theorem dX3_put_7 : decode cX3_put 7 = .ok (.tableswitch 63 0 2 #[25, 38, 51], 25) := by decide +kernel
theorem dX3_put_r32 : zdcP cX3_put 32 [(.aload_n 0, 1), (.getfield 9, 3), (.iload_n 1, 1), (.lload_n 2, 1), (.l2i, 1), (.i2b, 1), (.i2l, 1), (.lastore, 1), (.goto 35, 3), (.aload_n 0, 1), (.getfield 9, 3), (.iload_n 1, 1), (.lload_n 2, 1), (.l2i, 1), (.i2s, 1), (.i2l, 1)] := zdcA_ok (by decide +kernel)
theorem dX3_put_32 : decode cX3_put 32 = .ok (.aload_n 0, 1) := dX3_put_r32.1
theorem dX3_put_33 : decode cX3_put 33 = .ok (.getfield 9, 3) := dX3_put_r32.2.1
theorem dX3_put_36 : decode cX3_put 36 = .ok (.iload_n 1, 1) := dX3_put_r32.2.2.1
theorem dX3_put_37 : decode cX3_put 37 = .ok (.lload_n 2, 1) := dX3_put_r32.2.2.2.1
theorem dX3_put_38 : decode cX3_put 38 = .ok (.l2i, 1) := dX3_put_r32.2.2.2.2.1
theorem dX3_put_39 : decode cX3_put 39 = .ok (.i2b, 1) := dX3_put_r32.2.2.2.2.2.1
theorem dX3_put_40 : decode cX3_put 40 = .ok (.i2l, 1) := dX3_put_r32.2.2.2.2.2.2.1
theorem dX3_put_41 : decode cX3_put 41 = .ok (.lastore, 1) := dX3_put_r32.2.2.2.2.2.2.2.1
theorem dX3_put_42 : decode cX3_put 42 = .ok (.goto 35, 3) := dX3_put_r32.2.2.2.2.2.2.2.2.1
theorem dX3_put_45 : decode cX3_put 45 = .ok (.aload_n 0, 1) := dX3_put_r32.2.2.2.2.2.2.2.2.2.1
theorem dX3_put_46 : decode cX3_put 46 = .ok (.getfield 9, 3) := dX3_put_r32.2.2.2.2.2.2.2.2.2.2.1
theorem dX3_put_49 : decode cX3_put 49 = .ok (.iload_n 1, 1) := dX3_put_r32.2.2.2.2.2.2.2.2.2.2.2.1
theorem dX3_put_50 : decode cX3_put 50 = .ok (.lload_n 2, 1) := dX3_put_r32.2.2.2.2.2.2.2.2.2.2.2.2.1
theorem dX3_put_51 : decode cX3_put 51 = .ok (.l2i, 1) := dX3_put_r32.2.2.2.2.2.2.2.2.2.2.2.2.2.1
theorem dX3_put_52 : decode cX3_put 52 = .ok (.i2s, 1) := dX3_put_r32.2.2.2.2.2.2.2.2.2.2.2.2.2.2.1
theorem dX3_put_53 : decode cX3_put 53 = .ok (.i2l, 1) := dX3_put_r32.2.2.2.2.2.2.2.2.2.2.2.2.2.2.2.1
theorem dX3_put_r54 : zdcP cX3_put 54 [(.lastore, 1), (.goto 22, 3), (.aload_n 0, 1), (.getfield 9, 3), (.iload_n 1, 1), (.lload_n 2, 1), (.l2i, 1), (.i2l, 1), (.lastore, 1), (.goto 10, 3), (.aload_n 0, 1), (.getfield 9, 3), (.iload_n 1, 1), (.lload_n 2, 1), (.lastore, 1), (.return_, 1)] := zdcA_ok (by decide +kernel)
theorem dX3_put_54 : decode cX3_put 54 = .ok (.lastore, 1) := dX3_put_r54.1
theorem dX3_put_55 : decode cX3_put 55 = .ok (.goto 22, 3) := dX3_put_r54.2.1
theorem dX3_put_58 : decode cX3_put 58 = .ok (.aload_n 0, 1) := dX3_put_r54.2.2.1
theorem dX3_put_59 : decode cX3_put 59 = .ok (.getfield 9, 3) := dX3_put_r54.2.2.2.1
theorem dX3_put_62 : decode cX3_put 62 = .ok (.iload_n 1, 1) := dX3_put_r54.2.2.2.2.1
theorem dX3_put_63 : decode cX3_put 63 = .ok (.lload_n 2, 1) := dX3_put_r54.2.2.2.2.2.1
theorem dX3_put_64 : decode cX3_put 64 = .ok (.l2i, 1) := dX3_put_r54.2.2.2.2.2.2.1
theorem dX3_put_65 : decode cX3_put 65 = .ok (.i2l, 1) := dX3_put_r54.2.2.2.2.2.2.2.1
theorem dX3_put_66 : decode cX3_put 66 = .ok (.lastore, 1) := dX3_put_r54.2.2.2.2.2.2.2.2.1
theorem dX3_put_67 : decode cX3_put 67 = .ok (.goto 10, 3) := dX3_put_r54.2.2.2.2.2.2.2.2.2.1
theorem dX3_put_70 : decode cX3_put 70 = .ok (.aload_n 0, 1) := dX3_put_r54.2.2.2.2.2.2.2.2.2.2.1
theorem dX3_put_71 : decode cX3_put 71 = .ok (.getfield 9, 3) := dX3_put_r54.2.2.2.2.2.2.2.2.2.2.2.1
theorem dX3_put_74 : decode cX3_put 74 = .ok (.iload_n 1, 1) := dX3_put_r54.2.2.2.2.2.2.2.2.2.2.2.2.1
theorem dX3_put_75 : decode cX3_put 75 = .ok (.lload_n 2, 1) := dX3_put_r54.2.2.2.2.2.2.2.2.2.2.2.2.2.1
theorem dX3_put_76 : decode cX3_put 76 = .ok (.lastore, 1) := dX3_put_r54.2.2.2.2.2.2.2.2.2.2.2.2.2.2.1
theorem dX3_put_77 : decode cX3_put 77 = .ok (.return_, 1) := dX3_put_r54.2.2.2.2.2.2.2.2.2.2.2.2.2.2.2.1
def wp_23 (c0 : Nat) (r0 : Nat) (v1 : Int32) (v2 : Int64) (m : zf_Me) (Q : zf_Me → Prop) : Prop := ((((((m.1 c0 1) - 100)).toInt < 0 ∨ (((m.1 c0 1) - 100)).toInt > 2) → ((0 ≤ (Int32.toInt v1) ∧ (Int32.toInt v1) < (160 : Int)) ∧ ∀ m1, m1 = zf_ul m r0 (Int32.toInt v1).toNat v2 → Q m1)) ∧ ((((m.1 c0 1) - 100)).toInt = 0 → ((0 ≤ (Int32.toInt v1) ∧ (Int32.toInt v1) < (160 : Int)) ∧ ∀ m3, m3 = zf_ul m r0 (Int32.toInt v1).toNat (Int32.toInt64 (Int8.toInt32 (Int32.toInt8 (Int64.toInt32 v2)))) → Q m3)) ∧ ((((m.1 c0 1) - 100)).toInt = 1 → ((0 ≤ (Int32.toInt v1) ∧ (Int32.toInt v1) < (160 : Int)) ∧ ∀ m5, m5 = zf_ul m r0 (Int32.toInt v1).toNat (Int32.toInt64 (Int16.toInt32 (Int32.toInt16 (Int64.toInt32 v2)))) → Q m5)) ∧ ((((m.1 c0 1) - 100)).toInt = 2 → ((0 ≤ (Int32.toInt v1) ∧ (Int32.toInt v1) < (160 : Int)) ∧ ∀ m7, m7 = zf_ul m r0 (Int32.toInt v1).toNat (Int32.toInt64 (Int64.toInt32 v2)) → Q m7)))
theorem zr_23 {d : Nat} (hd : 0 ≤ d) {c0 : Nat} {r0 : Nat} (hp0 : zf_shelf c0 r0) {v1 : Int32} {v2 : Int64} {Q : zf_Me → Prop} {m : zf_Me} (h : wp_23 c0 r0 v1 v2 m Q) : zf_M d 23 [.inr (.inr (1, c0)), .inl v1, .inr (.inl v2)] m (zf_O Q) := by
  unfold wp_23 at h
  refine zf_M_of (Nat.le_of_ble_eq_true rfl) zm_23 (L := [some (.inr (.inr (1, c0))), some (.inl v1), some (.inr (.inl v2)), none]) rfl ?_
  refine zf_ld (pc' := 1) (v := .inr (.inr (1, c0))) dX3_put_0 rfl (fun _ _ _ => rfl) rfl rfl rfl ?_
  refine zf_gfi (pc' := 4) dX3_put_1 rfl rfl hp0.1 hp0.2.1 rfl ?_
  refine zf_bi (v := 100) (pc' := 6) dX3_put_4 rfl rfl ?_
  refine zf_in (pc' := 7) (S' := [.inl ((m.1 c0 1) - 100)]) dX3_put_6 rfl (fun _ _ _ => rfl) ?_
  refine zf_tsc (tgd := 70) dX3_put_7 rfl [32, 45, 58] (by decide) (by decide) (fun g => ?_) (zl_cons (fun g => ?_) (zl_cons (fun g => ?_) (zl_cons (fun g => ?_) (zl_nil))))
  · replace h := h.1 (by omega)
    refine zf_ld (pc' := 71) (v := .inr (.inr (1, c0))) dX3_put_70 rfl (fun _ _ _ => rfl) rfl rfl rfl ?_
    refine zf_gfr (pc' := 74) (b := r0) dX3_put_71 rfl rfl hp0.1 hp0.2.1 rfl ?_
    refine zf_ld (pc' := 75) (v := .inl v1) dX3_put_74 rfl (fun _ _ _ => rfl) rfl rfl rfl ?_
    refine zf_ld (pc' := 76) (v := .inr (.inl v2)) dX3_put_75 rfl (fun _ _ _ => rfl) rfl rfl rfl ?_
    refine zf_las (pc' := 77) dX3_put_76 rfl hp0.2.2.1 hp0.2.2.2 h.1 rfl (fun m1 e2 => ?_)
    replace h := h.2 m1 e2
    exact zf_rv dX3_put_77 rfl h
  · replace h := h.2.1 (by omega)
    refine zf_ld (pc' := 33) (v := .inr (.inr (1, c0))) dX3_put_32 rfl (fun _ _ _ => rfl) rfl rfl rfl ?_
    refine zf_gfr (pc' := 36) (b := r0) dX3_put_33 rfl rfl hp0.1 hp0.2.1 rfl ?_
    refine zf_ld (pc' := 37) (v := .inl v1) dX3_put_36 rfl (fun _ _ _ => rfl) rfl rfl rfl ?_
    refine zf_ld (pc' := 38) (v := .inr (.inl v2)) dX3_put_37 rfl (fun _ _ _ => rfl) rfl rfl rfl ?_
    refine zf_in (pc' := 39) (S' := [.inl (Int64.toInt32 v2), .inl v1, .inr (.inr (1, r0))]) dX3_put_38 rfl (fun _ _ _ => rfl) ?_
    refine zf_in (pc' := 40) (S' := [.inl (Int8.toInt32 (Int32.toInt8 (Int64.toInt32 v2))), .inl v1, .inr (.inr (1, r0))]) dX3_put_39 rfl (fun _ _ _ => rfl) ?_
    refine zf_in (pc' := 41) (S' := [.inr (.inl (Int32.toInt64 (Int8.toInt32 (Int32.toInt8 (Int64.toInt32 v2))))), .inl v1, .inr (.inr (1, r0))]) dX3_put_40 rfl (fun _ _ _ => rfl) ?_
    refine zf_las (pc' := 42) dX3_put_41 rfl hp0.2.2.1 hp0.2.2.2 h.1 rfl (fun m3 e4 => ?_)
    replace h := h.2 m3 e4
    refine zf_goto (tgt := 77) dX3_put_42 rfl ?_
    exact zf_rv dX3_put_77 rfl h
  · replace h := h.2.2.1 (by omega)
    refine zf_ld (pc' := 46) (v := .inr (.inr (1, c0))) dX3_put_45 rfl (fun _ _ _ => rfl) rfl rfl rfl ?_
    refine zf_gfr (pc' := 49) (b := r0) dX3_put_46 rfl rfl hp0.1 hp0.2.1 rfl ?_
    refine zf_ld (pc' := 50) (v := .inl v1) dX3_put_49 rfl (fun _ _ _ => rfl) rfl rfl rfl ?_
    refine zf_ld (pc' := 51) (v := .inr (.inl v2)) dX3_put_50 rfl (fun _ _ _ => rfl) rfl rfl rfl ?_
    refine zf_in (pc' := 52) (S' := [.inl (Int64.toInt32 v2), .inl v1, .inr (.inr (1, r0))]) dX3_put_51 rfl (fun _ _ _ => rfl) ?_
    refine zf_in (pc' := 53) (S' := [.inl (Int16.toInt32 (Int32.toInt16 (Int64.toInt32 v2))), .inl v1, .inr (.inr (1, r0))]) dX3_put_52 rfl (fun _ _ _ => rfl) ?_
    refine zf_in (pc' := 54) (S' := [.inr (.inl (Int32.toInt64 (Int16.toInt32 (Int32.toInt16 (Int64.toInt32 v2))))), .inl v1, .inr (.inr (1, r0))]) dX3_put_53 rfl (fun _ _ _ => rfl) ?_
    refine zf_las (pc' := 55) dX3_put_54 rfl hp0.2.2.1 hp0.2.2.2 h.1 rfl (fun m5 e6 => ?_)
    replace h := h.2 m5 e6
    refine zf_goto (tgt := 77) dX3_put_55 rfl ?_
    exact zf_rv dX3_put_77 rfl h
  · replace h := h.2.2.2 (by omega)
    refine zf_ld (pc' := 59) (v := .inr (.inr (1, c0))) dX3_put_58 rfl (fun _ _ _ => rfl) rfl rfl rfl ?_
    refine zf_gfr (pc' := 62) (b := r0) dX3_put_59 rfl rfl hp0.1 hp0.2.1 rfl ?_
    refine zf_ld (pc' := 63) (v := .inl v1) dX3_put_62 rfl (fun _ _ _ => rfl) rfl rfl rfl ?_
    refine zf_ld (pc' := 64) (v := .inr (.inl v2)) dX3_put_63 rfl (fun _ _ _ => rfl) rfl rfl rfl ?_
    refine zf_in (pc' := 65) (S' := [.inl (Int64.toInt32 v2), .inl v1, .inr (.inr (1, r0))]) dX3_put_64 rfl (fun _ _ _ => rfl) ?_
    refine zf_in (pc' := 66) (S' := [.inr (.inl (Int32.toInt64 (Int64.toInt32 v2))), .inl v1, .inr (.inr (1, r0))]) dX3_put_65 rfl (fun _ _ _ => rfl) ?_
    refine zf_las (pc' := 67) dX3_put_66 rfl hp0.2.2.1 hp0.2.2.2 h.1 rfl (fun m7 e8 => ?_)
    replace h := h.2 m7 e8
    refine zf_goto (tgt := 77) dX3_put_67 rfl ?_
    exact zf_rv dX3_put_77 rfl h
def zt_24 : zx_MT := (3, yX3_number, cX3_number, 2, (some FieldType.int), 1, 0)
theorem zm_24 : zx_m 24 = zt_24 := rfl
theorem dX3_number_r0 : zdcP cX3_number 0 [(.aload_n 0, 1), (.getfield 9, 3), (.iload_n 1, 1), (.laload, 1), (.l2i, 1), (.ireturn, 1)] := zdcA_ok (by decide +kernel)
theorem dX3_number_0 : decode cX3_number 0 = .ok (.aload_n 0, 1) := dX3_number_r0.1
theorem dX3_number_1 : decode cX3_number 1 = .ok (.getfield 9, 3) := dX3_number_r0.2.1
theorem dX3_number_4 : decode cX3_number 4 = .ok (.iload_n 1, 1) := dX3_number_r0.2.2.1
theorem dX3_number_5 : decode cX3_number 5 = .ok (.laload, 1) := dX3_number_r0.2.2.2.1
theorem dX3_number_6 : decode cX3_number 6 = .ok (.l2i, 1) := dX3_number_r0.2.2.2.2.1
theorem dX3_number_7 : decode cX3_number 7 = .ok (.ireturn, 1) := dX3_number_r0.2.2.2.2.2.1
def wp_24 (c0 : Nat) (r0 : Nat) (v1 : Int32) (m : zf_Me) (Q : Int32 → zf_Me → Prop) : Prop := ((0 ≤ (Int32.toInt v1) ∧ (Int32.toInt v1) < (160 : Int)) ∧ Q (Int64.toInt32 (m.2 r0 (Int32.toInt v1).toNat)) m)
theorem zr_24 {d : Nat} (hd : 0 ≤ d) {c0 : Nat} {r0 : Nat} (hp0 : zf_shelf c0 r0) {v1 : Int32} {Q : Int32 → zf_Me → Prop} {m : zf_Me} (h : wp_24 c0 r0 v1 m Q) : zf_M d 24 [.inr (.inr (1, c0)), .inl v1] m (zf_I Q) := by
  unfold wp_24 at h
  refine zf_M_of (Nat.le_of_ble_eq_true rfl) zm_24 (L := [some (.inr (.inr (1, c0))), some (.inl v1)]) rfl ?_
  refine zf_ld (pc' := 1) (v := .inr (.inr (1, c0))) dX3_number_0 rfl (fun _ _ _ => rfl) rfl rfl rfl ?_
  refine zf_gfr (pc' := 4) (b := r0) dX3_number_1 rfl rfl hp0.1 hp0.2.1 rfl ?_
  refine zf_ld (pc' := 5) (v := .inl v1) dX3_number_4 rfl (fun _ _ _ => rfl) rfl rfl rfl ?_
  refine zf_lal (pc' := 6) dX3_number_5 rfl hp0.2.2.1 hp0.2.2.2 h.1 rfl ?_
  replace h := h.2
  refine zf_in (pc' := 7) (S' := [.inl (Int64.toInt32 (m.2 r0 (Int32.toInt v1).toNat))]) dX3_number_6 rfl (fun _ _ _ => rfl) ?_
  exact zf_ri dX3_number_7 rfl h
def zt_63 : zx_MT := (6, yX6_copyFrom, cX6_copyFrom, 2, none, 1, 0)
theorem zm_63 : zx_m 63 = zt_63 := rfl
theorem dX6_copyFrom_r0 : zdcP cX6_copyFrom 0 [(.aload_n 1, 1), (.getfield 9, 3), (.iconst 0, 1), (.aload_n 0, 1), (.getfield 9, 3), (.iconst 0, 1), (.bipush 24, 2), (.invokestatic 31, 3), (.aload_n 1, 1), (.getfield 15, 3), (.iconst 0, 1), (.aload_n 0, 1), (.getfield 15, 3), (.iconst 0, 1), (.bipush 24, 2), (.invokestatic 31, 3)] := zdcA_ok (by decide +kernel)
theorem dX6_copyFrom_0 : decode cX6_copyFrom 0 = .ok (.aload_n 1, 1) := dX6_copyFrom_r0.1
theorem dX6_copyFrom_1 : decode cX6_copyFrom 1 = .ok (.getfield 9, 3) := dX6_copyFrom_r0.2.1
theorem dX6_copyFrom_4 : decode cX6_copyFrom 4 = .ok (.iconst 0, 1) := dX6_copyFrom_r0.2.2.1
theorem dX6_copyFrom_5 : decode cX6_copyFrom 5 = .ok (.aload_n 0, 1) := dX6_copyFrom_r0.2.2.2.1
theorem dX6_copyFrom_6 : decode cX6_copyFrom 6 = .ok (.getfield 9, 3) := dX6_copyFrom_r0.2.2.2.2.1
theorem dX6_copyFrom_9 : decode cX6_copyFrom 9 = .ok (.iconst 0, 1) := dX6_copyFrom_r0.2.2.2.2.2.1
theorem dX6_copyFrom_10 : decode cX6_copyFrom 10 = .ok (.bipush 24, 2) := dX6_copyFrom_r0.2.2.2.2.2.2.1
theorem dX6_copyFrom_12 : decode cX6_copyFrom 12 = .ok (.invokestatic 31, 3) := dX6_copyFrom_r0.2.2.2.2.2.2.2.1
theorem dX6_copyFrom_15 : decode cX6_copyFrom 15 = .ok (.aload_n 1, 1) := dX6_copyFrom_r0.2.2.2.2.2.2.2.2.1
theorem dX6_copyFrom_16 : decode cX6_copyFrom 16 = .ok (.getfield 15, 3) := dX6_copyFrom_r0.2.2.2.2.2.2.2.2.2.1
theorem dX6_copyFrom_19 : decode cX6_copyFrom 19 = .ok (.iconst 0, 1) := dX6_copyFrom_r0.2.2.2.2.2.2.2.2.2.2.1
theorem dX6_copyFrom_20 : decode cX6_copyFrom 20 = .ok (.aload_n 0, 1) := dX6_copyFrom_r0.2.2.2.2.2.2.2.2.2.2.2.1
theorem dX6_copyFrom_21 : decode cX6_copyFrom 21 = .ok (.getfield 15, 3) := dX6_copyFrom_r0.2.2.2.2.2.2.2.2.2.2.2.2.1
theorem dX6_copyFrom_24 : decode cX6_copyFrom 24 = .ok (.iconst 0, 1) := dX6_copyFrom_r0.2.2.2.2.2.2.2.2.2.2.2.2.2.1
theorem dX6_copyFrom_25 : decode cX6_copyFrom 25 = .ok (.bipush 24, 2) := dX6_copyFrom_r0.2.2.2.2.2.2.2.2.2.2.2.2.2.2.1
theorem dX6_copyFrom_27 : decode cX6_copyFrom 27 = .ok (.invokestatic 31, 3) := dX6_copyFrom_r0.2.2.2.2.2.2.2.2.2.2.2.2.2.2.2.1
theorem dX6_copyFrom_r30 : zdcP cX6_copyFrom 30 [(.aload_n 1, 1), (.getfield 18, 3), (.iconst 0, 1), (.aload_n 0, 1), (.getfield 18, 3), (.iconst 0, 1), (.bipush 6, 2), (.invokestatic 31, 3), (.aload_n 1, 1), (.getfield 21, 3), (.iconst 0, 1), (.aload_n 0, 1), (.getfield 21, 3), (.iconst 0, 1), (.bipush 6, 2), (.invokestatic 31, 3)] := zdcA_ok (by decide +kernel)
theorem dX6_copyFrom_30 : decode cX6_copyFrom 30 = .ok (.aload_n 1, 1) := dX6_copyFrom_r30.1
theorem dX6_copyFrom_31 : decode cX6_copyFrom 31 = .ok (.getfield 18, 3) := dX6_copyFrom_r30.2.1
theorem dX6_copyFrom_34 : decode cX6_copyFrom 34 = .ok (.iconst 0, 1) := dX6_copyFrom_r30.2.2.1
theorem dX6_copyFrom_35 : decode cX6_copyFrom 35 = .ok (.aload_n 0, 1) := dX6_copyFrom_r30.2.2.2.1
theorem dX6_copyFrom_36 : decode cX6_copyFrom 36 = .ok (.getfield 18, 3) := dX6_copyFrom_r30.2.2.2.2.1
theorem dX6_copyFrom_39 : decode cX6_copyFrom 39 = .ok (.iconst 0, 1) := dX6_copyFrom_r30.2.2.2.2.2.1
theorem dX6_copyFrom_40 : decode cX6_copyFrom 40 = .ok (.bipush 6, 2) := dX6_copyFrom_r30.2.2.2.2.2.2.1
theorem dX6_copyFrom_42 : decode cX6_copyFrom 42 = .ok (.invokestatic 31, 3) := dX6_copyFrom_r30.2.2.2.2.2.2.2.1
theorem dX6_copyFrom_45 : decode cX6_copyFrom 45 = .ok (.aload_n 1, 1) := dX6_copyFrom_r30.2.2.2.2.2.2.2.2.1
theorem dX6_copyFrom_46 : decode cX6_copyFrom 46 = .ok (.getfield 21, 3) := dX6_copyFrom_r30.2.2.2.2.2.2.2.2.2.1
theorem dX6_copyFrom_49 : decode cX6_copyFrom 49 = .ok (.iconst 0, 1) := dX6_copyFrom_r30.2.2.2.2.2.2.2.2.2.2.1
theorem dX6_copyFrom_50 : decode cX6_copyFrom 50 = .ok (.aload_n 0, 1) := dX6_copyFrom_r30.2.2.2.2.2.2.2.2.2.2.2.1
theorem dX6_copyFrom_51 : decode cX6_copyFrom 51 = .ok (.getfield 21, 3) := dX6_copyFrom_r30.2.2.2.2.2.2.2.2.2.2.2.2.1
theorem dX6_copyFrom_54 : decode cX6_copyFrom 54 = .ok (.iconst 0, 1) := dX6_copyFrom_r30.2.2.2.2.2.2.2.2.2.2.2.2.2.1
theorem dX6_copyFrom_55 : decode cX6_copyFrom 55 = .ok (.bipush 6, 2) := dX6_copyFrom_r30.2.2.2.2.2.2.2.2.2.2.2.2.2.2.1
theorem dX6_copyFrom_57 : decode cX6_copyFrom 57 = .ok (.invokestatic 31, 3) := dX6_copyFrom_r30.2.2.2.2.2.2.2.2.2.2.2.2.2.2.2.1
theorem dX6_copyFrom_r60 : zdcP cX6_copyFrom 60 [(.aload_n 0, 1), (.aload_n 1, 1), (.getfield 24, 3), (.putfield 24, 3), (.aload_n 0, 1), (.aload_n 1, 1), (.getfield 28, 3), (.putfield 28, 3), (.return_, 1)] := zdcA_ok (by decide +kernel)
theorem dX6_copyFrom_60 : decode cX6_copyFrom 60 = .ok (.aload_n 0, 1) := dX6_copyFrom_r60.1
theorem dX6_copyFrom_61 : decode cX6_copyFrom 61 = .ok (.aload_n 1, 1) := dX6_copyFrom_r60.2.1
theorem dX6_copyFrom_62 : decode cX6_copyFrom 62 = .ok (.getfield 24, 3) := dX6_copyFrom_r60.2.2.1
theorem dX6_copyFrom_65 : decode cX6_copyFrom 65 = .ok (.putfield 24, 3) := dX6_copyFrom_r60.2.2.2.1
theorem dX6_copyFrom_68 : decode cX6_copyFrom 68 = .ok (.aload_n 0, 1) := dX6_copyFrom_r60.2.2.2.2.1
theorem dX6_copyFrom_69 : decode cX6_copyFrom 69 = .ok (.aload_n 1, 1) := dX6_copyFrom_r60.2.2.2.2.2.1
theorem dX6_copyFrom_70 : decode cX6_copyFrom 70 = .ok (.getfield 28, 3) := dX6_copyFrom_r60.2.2.2.2.2.2.1
theorem dX6_copyFrom_73 : decode cX6_copyFrom 73 = .ok (.putfield 28, 3) := dX6_copyFrom_r60.2.2.2.2.2.2.2.1
theorem dX6_copyFrom_76 : decode cX6_copyFrom 76 = .ok (.return_, 1) := dX6_copyFrom_r60.2.2.2.2.2.2.2.2.1
def wp_63 (y0 : Nat) (y1 : Nat) (m : zf_Me) (Q : zf_Me → Prop) : Prop := (∀ m1, m1 = zf_cp m (y1 + 1) (y0 + 1) 0 0 24 → (∀ m3, m3 = zf_cp m1 (y1 + 2) (y0 + 2) 0 0 24 → (∀ m5, m5 = zf_cp m3 (y1 + 3) (y0 + 3) 0 0 6 → (∀ m7, m7 = zf_cp m5 (y1 + 4) (y0 + 4) 0 0 6 → (∀ m9, m9 = zf_u m7 y0 4 (m7.1 y1 4) → (∀ m11, m11 = zf_u m9 y0 5 (m9.1 y1 5) → Q m11))))))
theorem zr_63 {d : Nat} (hd : 0 ≤ d) {y0 : Nat} {y1 : Nat} (hp0 : zf_way y0) (hp1 : zf_way y1) {Q : zf_Me → Prop} {m : zf_Me} (h : wp_63 y0 y1 m Q) : zf_M d 63 [.inr (.inr (1, y0)), .inr (.inr (1, y1))] m (zf_O Q) := by
  unfold wp_63 at h
  refine zf_M_of (Nat.le_of_ble_eq_true rfl) zm_63 (L := [some (.inr (.inr (1, y0))), some (.inr (.inr (1, y1)))]) rfl ?_
  refine zf_ld (pc' := 1) (v := .inr (.inr (1, y1))) dX6_copyFrom_0 rfl (fun _ _ _ => rfl) rfl rfl rfl ?_
  refine zf_gfr (pc' := 4) (b := (y1 + 1)) dX6_copyFrom_1 rfl rfl hp1.1 hp1.2.1 rfl ?_
  refine zf_ic (v := 0) (pc' := 5) dX6_copyFrom_4 rfl rfl ?_
  refine zf_ld (pc' := 6) (v := .inr (.inr (1, y0))) dX6_copyFrom_5 rfl (fun _ _ _ => rfl) rfl rfl rfl ?_
  refine zf_gfr (pc' := 9) (b := (y0 + 1)) dX6_copyFrom_6 rfl rfl hp0.1 hp0.2.1 rfl ?_
  refine zf_ic (v := 0) (pc' := 10) dX6_copyFrom_9 rfl rfl ?_
  refine zf_bi (v := 24) (pc' := 12) dX6_copyFrom_10 rfl rfl ?_
  refine zf_ac (pc' := 15) dX6_copyFrom_12 rfl rfl (q0 := _) rfl hp1.2.2.1.1 hp0.2.2.1.1 hp1.2.2.1.2 hp0.2.2.1.2 rfl (by decide) (fun m1 e2 => ?_)
  replace h := h m1 e2
  refine zf_ld (pc' := 16) (v := .inr (.inr (1, y1))) dX6_copyFrom_15 rfl (fun _ _ _ => rfl) rfl rfl rfl ?_
  refine zf_gfr (pc' := 19) (b := (y1 + 2)) dX6_copyFrom_16 rfl rfl hp1.1 hp1.2.1 rfl ?_
  refine zf_ic (v := 0) (pc' := 20) dX6_copyFrom_19 rfl rfl ?_
  refine zf_ld (pc' := 21) (v := .inr (.inr (1, y0))) dX6_copyFrom_20 rfl (fun _ _ _ => rfl) rfl rfl rfl ?_
  refine zf_gfr (pc' := 24) (b := (y0 + 2)) dX6_copyFrom_21 rfl rfl hp0.1 hp0.2.1 rfl ?_
  refine zf_ic (v := 0) (pc' := 25) dX6_copyFrom_24 rfl rfl ?_
  refine zf_bi (v := 24) (pc' := 27) dX6_copyFrom_25 rfl rfl ?_
  refine zf_ac (pc' := 30) dX6_copyFrom_27 rfl rfl (q0 := _) rfl hp1.2.2.2.1.1 hp0.2.2.2.1.1 hp1.2.2.2.1.2 hp0.2.2.2.1.2 rfl (by decide) (fun m3 e4 => ?_)
  replace h := h m3 e4
  refine zf_ld (pc' := 31) (v := .inr (.inr (1, y1))) dX6_copyFrom_30 rfl (fun _ _ _ => rfl) rfl rfl rfl ?_
  refine zf_gfr (pc' := 34) (b := (y1 + 3)) dX6_copyFrom_31 rfl rfl hp1.1 hp1.2.1 rfl ?_
  refine zf_ic (v := 0) (pc' := 35) dX6_copyFrom_34 rfl rfl ?_
  refine zf_ld (pc' := 36) (v := .inr (.inr (1, y0))) dX6_copyFrom_35 rfl (fun _ _ _ => rfl) rfl rfl rfl ?_
  refine zf_gfr (pc' := 39) (b := (y0 + 3)) dX6_copyFrom_36 rfl rfl hp0.1 hp0.2.1 rfl ?_
  refine zf_ic (v := 0) (pc' := 40) dX6_copyFrom_39 rfl rfl ?_
  refine zf_bi (v := 6) (pc' := 42) dX6_copyFrom_40 rfl rfl ?_
  refine zf_ac (pc' := 45) dX6_copyFrom_42 rfl rfl (q0 := _) rfl hp1.2.2.2.2.1.1 hp0.2.2.2.2.1.1 hp1.2.2.2.2.1.2 hp0.2.2.2.2.1.2 rfl (by decide) (fun m5 e6 => ?_)
  replace h := h m5 e6
  refine zf_ld (pc' := 46) (v := .inr (.inr (1, y1))) dX6_copyFrom_45 rfl (fun _ _ _ => rfl) rfl rfl rfl ?_
  refine zf_gfr (pc' := 49) (b := (y1 + 4)) dX6_copyFrom_46 rfl rfl hp1.1 hp1.2.1 rfl ?_
  refine zf_ic (v := 0) (pc' := 50) dX6_copyFrom_49 rfl rfl ?_
  refine zf_ld (pc' := 51) (v := .inr (.inr (1, y0))) dX6_copyFrom_50 rfl (fun _ _ _ => rfl) rfl rfl rfl ?_
  refine zf_gfr (pc' := 54) (b := (y0 + 4)) dX6_copyFrom_51 rfl rfl hp0.1 hp0.2.1 rfl ?_
  refine zf_ic (v := 0) (pc' := 55) dX6_copyFrom_54 rfl rfl ?_
  refine zf_bi (v := 6) (pc' := 57) dX6_copyFrom_55 rfl rfl ?_
  refine zf_ac (pc' := 60) dX6_copyFrom_57 rfl rfl (q0 := _) rfl hp1.2.2.2.2.2.1 hp0.2.2.2.2.2.1 hp1.2.2.2.2.2.2 hp0.2.2.2.2.2.2 rfl (by decide) (fun m7 e8 => ?_)
  replace h := h m7 e8
  refine zf_ld (pc' := 61) (v := .inr (.inr (1, y0))) dX6_copyFrom_60 rfl (fun _ _ _ => rfl) rfl rfl rfl ?_
  refine zf_ld (pc' := 62) (v := .inr (.inr (1, y1))) dX6_copyFrom_61 rfl (fun _ _ _ => rfl) rfl rfl rfl ?_
  refine zf_gfi (pc' := 65) dX6_copyFrom_62 rfl rfl hp1.1 hp1.2.1 rfl ?_
  refine zf_pf (pc' := 68) dX6_copyFrom_65 rfl rfl hp0.1 hp0.2.1 rfl rfl (fun m9 e10 => ?_)
  replace h := h m9 e10
  refine zf_ld (pc' := 69) (v := .inr (.inr (1, y0))) dX6_copyFrom_68 rfl (fun _ _ _ => rfl) rfl rfl rfl ?_
  refine zf_ld (pc' := 70) (v := .inr (.inr (1, y1))) dX6_copyFrom_69 rfl (fun _ _ _ => rfl) rfl rfl rfl ?_
  refine zf_gfi (pc' := 73) dX6_copyFrom_70 rfl rfl hp1.1 hp1.2.1 rfl ?_
  refine zf_pf (pc' := 76) dX6_copyFrom_73 rfl rfl hp0.1 hp0.2.1 rfl rfl (fun m11 e12 => ?_)
  replace h := h m11 e12
  exact zf_rv dX6_copyFrom_76 rfl h
def zt_38 : zx_MT := (4, yX4_spelling, cX4_spelling, 1, (some (FieldType.object "java/lang/String")), 1, 1)
theorem zm_38 : zx_m 38 = zt_38 := rfl
theorem dX4_spelling_0 : decode cX4_spelling 0 = .ok (.iload_n 0, 1) := zdc_ok (by decide +kernel)
theorem dX4_spelling_1 : decode cX4_spelling 1 = .ok (.tableswitch 92 0 10 #[59, 62, 65, 68, 71, 74, 77, 80, 83, 86, 89], 59) := by decide +kernel
theorem dX4_spelling_r60 : zdcP cX4_spelling 60 [(.ldc 156, 2), (.areturn, 1), (.ldc 158, 2), (.areturn, 1), (.ldc 160, 2), (.areturn, 1), (.ldc 162, 2), (.areturn, 1), (.ldc 164, 2), (.areturn, 1), (.ldc 165, 2), (.areturn, 1), (.ldc 166, 2), (.areturn, 1), (.ldc 168, 2), (.areturn, 1)] := zdcA_ok (by decide +kernel)
theorem dX4_spelling_60 : decode cX4_spelling 60 = .ok (.ldc 156, 2) := dX4_spelling_r60.1
theorem dX4_spelling_62 : decode cX4_spelling 62 = .ok (.areturn, 1) := dX4_spelling_r60.2.1
theorem dX4_spelling_63 : decode cX4_spelling 63 = .ok (.ldc 158, 2) := dX4_spelling_r60.2.2.1
theorem dX4_spelling_65 : decode cX4_spelling 65 = .ok (.areturn, 1) := dX4_spelling_r60.2.2.2.1
theorem dX4_spelling_66 : decode cX4_spelling 66 = .ok (.ldc 160, 2) := dX4_spelling_r60.2.2.2.2.1
theorem dX4_spelling_68 : decode cX4_spelling 68 = .ok (.areturn, 1) := dX4_spelling_r60.2.2.2.2.2.1
theorem dX4_spelling_69 : decode cX4_spelling 69 = .ok (.ldc 162, 2) := dX4_spelling_r60.2.2.2.2.2.2.1
theorem dX4_spelling_71 : decode cX4_spelling 71 = .ok (.areturn, 1) := dX4_spelling_r60.2.2.2.2.2.2.2.1
theorem dX4_spelling_72 : decode cX4_spelling 72 = .ok (.ldc 164, 2) := dX4_spelling_r60.2.2.2.2.2.2.2.2.1
theorem dX4_spelling_74 : decode cX4_spelling 74 = .ok (.areturn, 1) := dX4_spelling_r60.2.2.2.2.2.2.2.2.2.1
theorem dX4_spelling_75 : decode cX4_spelling 75 = .ok (.ldc 165, 2) := dX4_spelling_r60.2.2.2.2.2.2.2.2.2.2.1
theorem dX4_spelling_77 : decode cX4_spelling 77 = .ok (.areturn, 1) := dX4_spelling_r60.2.2.2.2.2.2.2.2.2.2.2.1
theorem dX4_spelling_78 : decode cX4_spelling 78 = .ok (.ldc 166, 2) := dX4_spelling_r60.2.2.2.2.2.2.2.2.2.2.2.2.1
theorem dX4_spelling_80 : decode cX4_spelling 80 = .ok (.areturn, 1) := dX4_spelling_r60.2.2.2.2.2.2.2.2.2.2.2.2.2.1
theorem dX4_spelling_81 : decode cX4_spelling 81 = .ok (.ldc 168, 2) := dX4_spelling_r60.2.2.2.2.2.2.2.2.2.2.2.2.2.2.1
theorem dX4_spelling_83 : decode cX4_spelling 83 = .ok (.areturn, 1) := dX4_spelling_r60.2.2.2.2.2.2.2.2.2.2.2.2.2.2.2.1
theorem dX4_spelling_r84 : zdcP cX4_spelling 84 [(.ldc 170, 2), (.areturn, 1), (.ldc 172, 2), (.areturn, 1), (.ldc 174, 2), (.areturn, 1), (.ldc 176, 2), (.areturn, 1)] := zdcA_ok (by decide +kernel)
theorem dX4_spelling_84 : decode cX4_spelling 84 = .ok (.ldc 170, 2) := dX4_spelling_r84.1
theorem dX4_spelling_86 : decode cX4_spelling 86 = .ok (.areturn, 1) := dX4_spelling_r84.2.1
theorem dX4_spelling_87 : decode cX4_spelling 87 = .ok (.ldc 172, 2) := dX4_spelling_r84.2.2.1
theorem dX4_spelling_89 : decode cX4_spelling 89 = .ok (.areturn, 1) := dX4_spelling_r84.2.2.2.1
theorem dX4_spelling_90 : decode cX4_spelling 90 = .ok (.ldc 174, 2) := dX4_spelling_r84.2.2.2.2.1
theorem dX4_spelling_92 : decode cX4_spelling 92 = .ok (.areturn, 1) := dX4_spelling_r84.2.2.2.2.2.1
theorem dX4_spelling_93 : decode cX4_spelling 93 = .ok (.ldc 176, 2) := dX4_spelling_r84.2.2.2.2.2.2.1
theorem dX4_spelling_95 : decode cX4_spelling 95 = .ok (.areturn, 1) := dX4_spelling_r84.2.2.2.2.2.2.2.1
def wp_38 (v0 : Int32) (m : zf_Me) (Q : Nat → zf_Me → Prop) : Prop := (((v0.toInt < 0 ∨ v0.toInt > 10) → Q 11 m) ∧ (v0.toInt = 0 → Q 0 m) ∧ (v0.toInt = 1 → Q 1 m) ∧ (v0.toInt = 2 → Q 2 m) ∧ (v0.toInt = 3 → Q 3 m) ∧ (v0.toInt = 4 → Q 4 m) ∧ (v0.toInt = 5 → Q 5 m) ∧ (v0.toInt = 6 → Q 6 m) ∧ (v0.toInt = 7 → Q 7 m) ∧ (v0.toInt = 8 → Q 8 m) ∧ (v0.toInt = 9 → Q 9 m) ∧ (v0.toInt = 10 → Q 10 m))
theorem zr_38 {d : Nat} (hd : 0 ≤ d) {v0 : Int32} {Q : Nat → zf_Me → Prop} {m : zf_Me} (h : wp_38 v0 m Q) : zf_M d 38 [.inl v0] m (zf_T Q) := by
  unfold wp_38 at h
  refine zf_M_of (Nat.le_of_ble_eq_true rfl) zm_38 (L := [some (.inl v0)]) rfl ?_
  refine zf_ld (pc' := 1) (v := .inl v0) dX4_spelling_0 rfl (fun _ _ _ => rfl) rfl rfl rfl ?_
  refine zf_tsc (tgd := 93) dX4_spelling_1 rfl [60, 63, 66, 69, 72, 75, 78, 81, 84, 87, 90] (by decide) (by decide) (fun g => ?_) (zl_cons (fun g => ?_) (zl_cons (fun g => ?_) (zl_cons (fun g => ?_) (zl_cons (fun g => ?_) (zl_cons (fun g => ?_) (zl_cons (fun g => ?_) (zl_cons (fun g => ?_) (zl_cons (fun g => ?_) (zl_cons (fun g => ?_) (zl_cons (fun g => ?_) (zl_cons (fun g => ?_) (zl_nil))))))))))))
  · replace h := h.1 (by omega)
    refine zf_lds (i := 11) (pc' := 95) dX4_spelling_93 rfl rfl rfl rfl (by decide) ?_
    exact zf_rt dX4_spelling_95 rfl (by decide) h
  · replace h := h.2.1 (by omega)
    refine zf_lds (i := 0) (pc' := 62) dX4_spelling_60 rfl rfl rfl rfl (by decide) ?_
    exact zf_rt dX4_spelling_62 rfl (by decide) h
  · replace h := h.2.2.1 (by omega)
    refine zf_lds (i := 1) (pc' := 65) dX4_spelling_63 rfl rfl rfl rfl (by decide) ?_
    exact zf_rt dX4_spelling_65 rfl (by decide) h
  · replace h := h.2.2.2.1 (by omega)
    refine zf_lds (i := 2) (pc' := 68) dX4_spelling_66 rfl rfl rfl rfl (by decide) ?_
    exact zf_rt dX4_spelling_68 rfl (by decide) h
  · replace h := h.2.2.2.2.1 (by omega)
    refine zf_lds (i := 3) (pc' := 71) dX4_spelling_69 rfl rfl rfl rfl (by decide) ?_
    exact zf_rt dX4_spelling_71 rfl (by decide) h
  · replace h := h.2.2.2.2.2.1 (by omega)
    refine zf_lds (i := 4) (pc' := 74) dX4_spelling_72 rfl rfl rfl rfl (by decide) ?_
    exact zf_rt dX4_spelling_74 rfl (by decide) h
  · replace h := h.2.2.2.2.2.2.1 (by omega)
    refine zf_lds (i := 5) (pc' := 77) dX4_spelling_75 rfl rfl rfl rfl (by decide) ?_
    exact zf_rt dX4_spelling_77 rfl (by decide) h
  · replace h := h.2.2.2.2.2.2.2.1 (by omega)
    refine zf_lds (i := 6) (pc' := 80) dX4_spelling_78 rfl rfl rfl rfl (by decide) ?_
    exact zf_rt dX4_spelling_80 rfl (by decide) h
  · replace h := h.2.2.2.2.2.2.2.2.1 (by omega)
    refine zf_lds (i := 7) (pc' := 83) dX4_spelling_81 rfl rfl rfl rfl (by decide) ?_
    exact zf_rt dX4_spelling_83 rfl (by decide) h
  · replace h := h.2.2.2.2.2.2.2.2.2.1 (by omega)
    refine zf_lds (i := 8) (pc' := 86) dX4_spelling_84 rfl rfl rfl rfl (by decide) ?_
    exact zf_rt dX4_spelling_86 rfl (by decide) h
  · replace h := h.2.2.2.2.2.2.2.2.2.2.1 (by omega)
    refine zf_lds (i := 9) (pc' := 89) dX4_spelling_87 rfl rfl rfl rfl (by decide) ?_
    exact zf_rt dX4_spelling_89 rfl (by decide) h
  · replace h := h.2.2.2.2.2.2.2.2.2.2.2 (by omega)
    refine zf_lds (i := 10) (pc' := 92) dX4_spelling_90 rfl rfl rfl rfl (by decide) ?_
    exact zf_rt dX4_spelling_92 rfl (by decide) h
def zt_37 : zx_MT := (4, yX4_beginsThere, cX4_beginsThere, 5, (some FieldType.boolean), 3, 0)
theorem zm_37 : zx_m 37 = zt_37 := rfl
theorem dX4_beginsThere_r0 : zdcP cX4_beginsThere 0 [(.iload_n 3, 1), (.aload_n 1, 1), (.invokevirtual 143, 3), (.if_icmp .gt 13, 3), (.iload_n 2, 1), (.iload_n 3, 1), (.iadd, 1), (.aload_n 0, 1), (.getfield 27, 3), (.if_icmp .le 5, 3), (.iconst 0, 1), (.ireturn, 1), (.iconst 0, 1), (.istore 4, 2), (.iload 4, 2), (.iload_n 3, 1)] := zdcA_ok (by decide +kernel)
theorem dX4_beginsThere_0 : decode cX4_beginsThere 0 = .ok (.iload_n 3, 1) := dX4_beginsThere_r0.1
theorem dX4_beginsThere_1 : decode cX4_beginsThere 1 = .ok (.aload_n 1, 1) := dX4_beginsThere_r0.2.1
theorem dX4_beginsThere_2 : decode cX4_beginsThere 2 = .ok (.invokevirtual 143, 3) := dX4_beginsThere_r0.2.2.1
theorem dX4_beginsThere_5 : decode cX4_beginsThere 5 = .ok (.if_icmp .gt 13, 3) := dX4_beginsThere_r0.2.2.2.1
theorem dX4_beginsThere_8 : decode cX4_beginsThere 8 = .ok (.iload_n 2, 1) := dX4_beginsThere_r0.2.2.2.2.1
theorem dX4_beginsThere_9 : decode cX4_beginsThere 9 = .ok (.iload_n 3, 1) := dX4_beginsThere_r0.2.2.2.2.2.1
theorem dX4_beginsThere_10 : decode cX4_beginsThere 10 = .ok (.iadd, 1) := dX4_beginsThere_r0.2.2.2.2.2.2.1
theorem dX4_beginsThere_11 : decode cX4_beginsThere 11 = .ok (.aload_n 0, 1) := dX4_beginsThere_r0.2.2.2.2.2.2.2.1
theorem dX4_beginsThere_12 : decode cX4_beginsThere 12 = .ok (.getfield 27, 3) := dX4_beginsThere_r0.2.2.2.2.2.2.2.2.1
theorem dX4_beginsThere_15 : decode cX4_beginsThere 15 = .ok (.if_icmp .le 5, 3) := dX4_beginsThere_r0.2.2.2.2.2.2.2.2.2.1
theorem dX4_beginsThere_18 : decode cX4_beginsThere 18 = .ok (.iconst 0, 1) := dX4_beginsThere_r0.2.2.2.2.2.2.2.2.2.2.1
theorem dX4_beginsThere_19 : decode cX4_beginsThere 19 = .ok (.ireturn, 1) := dX4_beginsThere_r0.2.2.2.2.2.2.2.2.2.2.2.1
theorem dX4_beginsThere_20 : decode cX4_beginsThere 20 = .ok (.iconst 0, 1) := dX4_beginsThere_r0.2.2.2.2.2.2.2.2.2.2.2.2.1
theorem dX4_beginsThere_21 : decode cX4_beginsThere 21 = .ok (.istore 4, 2) := dX4_beginsThere_r0.2.2.2.2.2.2.2.2.2.2.2.2.2.1
theorem dX4_beginsThere_23 : decode cX4_beginsThere 23 = .ok (.iload 4, 2) := dX4_beginsThere_r0.2.2.2.2.2.2.2.2.2.2.2.2.2.2.1
theorem dX4_beginsThere_25 : decode cX4_beginsThere 25 = .ok (.iload_n 3, 1) := dX4_beginsThere_r0.2.2.2.2.2.2.2.2.2.2.2.2.2.2.2.1
theorem dX4_beginsThere_r26 : zdcP cX4_beginsThere 26 [(.if_icmp .ge 29, 3), (.aload_n 0, 1), (.getfield 23, 3), (.iload_n 2, 1), (.iload 4, 2), (.iadd, 1), (.iaload, 1), (.aload_n 1, 1), (.iload 4, 2), (.invokevirtual 152, 3), (.if_icmp .eq 5, 3), (.iconst 0, 1), (.ireturn, 1), (.iinc 4 1, 3), (.goto (-29), 3), (.iconst 1, 1)] := zdcA_ok (by decide +kernel)
theorem dX4_beginsThere_26 : decode cX4_beginsThere 26 = .ok (.if_icmp .ge 29, 3) := dX4_beginsThere_r26.1
theorem dX4_beginsThere_29 : decode cX4_beginsThere 29 = .ok (.aload_n 0, 1) := dX4_beginsThere_r26.2.1
theorem dX4_beginsThere_30 : decode cX4_beginsThere 30 = .ok (.getfield 23, 3) := dX4_beginsThere_r26.2.2.1
theorem dX4_beginsThere_33 : decode cX4_beginsThere 33 = .ok (.iload_n 2, 1) := dX4_beginsThere_r26.2.2.2.1
theorem dX4_beginsThere_34 : decode cX4_beginsThere 34 = .ok (.iload 4, 2) := dX4_beginsThere_r26.2.2.2.2.1
theorem dX4_beginsThere_36 : decode cX4_beginsThere 36 = .ok (.iadd, 1) := dX4_beginsThere_r26.2.2.2.2.2.1
theorem dX4_beginsThere_37 : decode cX4_beginsThere 37 = .ok (.iaload, 1) := dX4_beginsThere_r26.2.2.2.2.2.2.1
theorem dX4_beginsThere_38 : decode cX4_beginsThere 38 = .ok (.aload_n 1, 1) := dX4_beginsThere_r26.2.2.2.2.2.2.2.1
theorem dX4_beginsThere_39 : decode cX4_beginsThere 39 = .ok (.iload 4, 2) := dX4_beginsThere_r26.2.2.2.2.2.2.2.2.1
theorem dX4_beginsThere_41 : decode cX4_beginsThere 41 = .ok (.invokevirtual 152, 3) := dX4_beginsThere_r26.2.2.2.2.2.2.2.2.2.1
theorem dX4_beginsThere_44 : decode cX4_beginsThere 44 = .ok (.if_icmp .eq 5, 3) := dX4_beginsThere_r26.2.2.2.2.2.2.2.2.2.2.1
theorem dX4_beginsThere_47 : decode cX4_beginsThere 47 = .ok (.iconst 0, 1) := dX4_beginsThere_r26.2.2.2.2.2.2.2.2.2.2.2.1
theorem dX4_beginsThere_48 : decode cX4_beginsThere 48 = .ok (.ireturn, 1) := dX4_beginsThere_r26.2.2.2.2.2.2.2.2.2.2.2.2.1
theorem dX4_beginsThere_49 : decode cX4_beginsThere 49 = .ok (.iinc 4 1, 3) := dX4_beginsThere_r26.2.2.2.2.2.2.2.2.2.2.2.2.2.1
theorem dX4_beginsThere_52 : decode cX4_beginsThere 52 = .ok (.goto (-29), 3) := dX4_beginsThere_r26.2.2.2.2.2.2.2.2.2.2.2.2.2.2.1
theorem dX4_beginsThere_55 : decode cX4_beginsThere 55 = .ok (.iconst 1, 1) := dX4_beginsThere_r26.2.2.2.2.2.2.2.2.2.2.2.2.2.2.2.1
theorem dX4_beginsThere_56 : decode cX4_beginsThere 56 = .ok (.ireturn, 1) := zdc_ok (by decide +kernel)
def wq_37_23 (t1 : Nat) (v2 : Int32) (v3 : Int32) (Q : Bool → zf_Me → Prop) : Nat → Int32 → zf_Me → Prop
  | 0, _, _ => False
  | n + 1, v4, m => ((v4.toInt ≥ v3.toInt → Q true m) ∧ (v4.toInt < v3.toInt → ((0 ≤ (Int32.toInt (v2 + v4)) ∧ (Int32.toInt (v2 + v4)) < (160 : Int)) ∧ wp_215 t1 v4 m (fun x3 m4 => ((((m.1 43 (Int32.toInt (v2 + v4)).toNat)).toInt = x3.toInt → wq_37_23 t1 v2 v3 Q n (v4 + 1) m4) ∧ (¬ ((m.1 43 (Int32.toInt (v2 + v4)).toNat)).toInt = x3.toInt → Q false m4))))))
theorem zq_37_23 {d : Nat} (hd : 5 ≤ d) {t1 : Nat} (hp1 : t1 < 12) {v2 : Int32} {v3 : Int32} {Q : Bool → zf_Me → Prop} : ∀ (n : Nat) (v4 : Int32) (m : zf_Me), wq_37_23 t1 v2 v3 Q n v4 m → zf_W none 0 0 d zt_37 23 [some (.inr (.inr (1, 35))), some (.inr (.inr (2, t1))), some (.inl v2), some (.inl v3), some (.inl v4)] [] m (zf_B Q) := by
  obtain ⟨e, rfl⟩ : ∃ z, d = z + 1 := ⟨d - 1, by omega⟩
  intro n
  induction n with
  | zero =>
    intro v4 m h
    exact h.elim
  | succ n ih =>
    intro v4 m h
    unfold wq_37_23 at h
    refine zf_ld (pc' := 25) (v := .inl v4) dX4_beginsThere_23 rfl (fun _ _ _ => rfl) rfl rfl rfl ?_
    refine zf_ld (pc' := 26) (v := .inl v3) dX4_beginsThere_25 rfl (fun _ _ _ => rfl) rfl rfl rfl ?_
    refine zf_icmp_ge (tgt := 55) (pc' := 29) dX4_beginsThere_26 rfl rfl (fun g => ?_) (fun g => ?_)
    · replace h := h.1 g
      refine zf_ic (v := 1) (pc' := 56) dX4_beginsThere_55 rfl rfl ?_
      exact zf_rb (b := true) dX4_beginsThere_56 rfl h
    · replace h := h.2 g
      refine zf_ld (pc' := 30) (v := .inr (.inr (1, 35))) dX4_beginsThere_29 rfl (fun _ _ _ => rfl) rfl rfl rfl ?_
      refine zf_gfr (pc' := 33) (b := 43) dX4_beginsThere_30 rfl rfl (by decide) rfl rfl ?_
      refine zf_ld (pc' := 34) (v := .inl v2) dX4_beginsThere_33 rfl (fun _ _ _ => rfl) rfl rfl rfl ?_
      refine zf_ld (pc' := 36) (v := .inl v4) dX4_beginsThere_34 rfl (fun _ _ _ => rfl) rfl rfl rfl ?_
      refine zf_in (pc' := 37) (S' := [.inl (v2 + v4), .inr (.inr (1, 43))]) dX4_beginsThere_36 rfl (fun _ _ _ => rfl) ?_
      refine zf_ial (pc' := 38) dX4_beginsThere_37 rfl (⟨by decide, rfl⟩ : zf_arr 43 160).1 (⟨by decide, rfl⟩ : zf_arr 43 160).2 h.1 rfl ?_
      replace h := h.2
      refine zf_ld (pc' := 39) (v := .inr (.inr (2, t1))) dX4_beginsThere_38 rfl (fun _ _ _ => rfl) rfl rfl rfl ?_
      refine zf_ld (pc' := 41) (v := .inl v4) dX4_beginsThere_39 rfl (fun _ _ _ => rfl) rfl rfl rfl ?_
      refine zf_iv2 (k := 215) (pc' := 44) (r := [.inl (m.1 43 (Int32.toInt (v2 + v4)).toNat)]) dX4_beginsThere_41 rfl rfl rfl rfl hp1 rfl rfl (zr_215 (by omega) hp1 h) (zf_kI (fun x3 m4 h => ?_))
      refine zf_icmp_eq (tgt := 49) (pc' := 47) dX4_beginsThere_44 rfl rfl (fun g => ?_) (fun g => ?_)
      · replace h := h.1 g
        refine zf_ii (y := (v4 + 1)) (L2 := [some (.inr (.inr (1, 35))), some (.inr (.inr (2, t1))), some (.inl v2), some (.inl v3), some (.inl (v4 + 1))]) (pc' := 52) dX4_beginsThere_49 rfl rfl rfl rfl rfl ?_
        refine zf_goto (tgt := 23) dX4_beginsThere_52 rfl ?_
        exact zf_lo (ih _ _ h) ⟨rfl, rfl, rfl, rfl, rfl, trivial⟩
      · replace h := h.2 g
        refine zf_ic (v := 0) (pc' := 48) dX4_beginsThere_47 rfl rfl ?_
        exact zf_rb (b := false) dX4_beginsThere_48 rfl h
def wp_37 (t1 : Nat) (v2 : Int32) (v3 : Int32) (m : zf_Me) (Q : Bool → zf_Me → Prop) : Prop := wp_214 t1 m (fun x1 m2 => ((v3.toInt > x1.toInt → Q false m2) ∧ (v3.toInt ≤ x1.toInt → ((((v2 + v3)).toInt ≤ ((m2.1 35 2)).toInt → (∃ n23, wq_37_23 t1 v2 v3 Q n23 0 m2)) ∧ (((v2 + v3)).toInt > ((m2.1 35 2)).toInt → Q false m2)))))
theorem zr_37 {d : Nat} (hd : 5 ≤ d) {t1 : Nat} (hp1 : t1 < 12) {v2 : Int32} {v3 : Int32} {Q : Bool → zf_Me → Prop} {m : zf_Me} (h : wp_37 t1 v2 v3 m Q) : zf_M d 37 [.inr (.inr (1, 35)), .inr (.inr (2, t1)), .inl v2, .inl v3] m (zf_B Q) := by
  obtain ⟨e, rfl⟩ : ∃ z, d = z + 1 := ⟨d - 1, by omega⟩
  unfold wp_37 at h
  refine zf_M_of (Nat.le_of_ble_eq_true rfl) zm_37 (L := [some (.inr (.inr (1, 35))), some (.inr (.inr (2, t1))), some (.inl v2), some (.inl v3), none]) rfl ?_
  refine zf_ld (pc' := 1) (v := .inl v3) dX4_beginsThere_0 rfl (fun _ _ _ => rfl) rfl rfl rfl ?_
  refine zf_ld (pc' := 2) (v := .inr (.inr (2, t1))) dX4_beginsThere_1 rfl (fun _ _ _ => rfl) rfl rfl rfl ?_
  refine zf_iv2 (k := 214) (pc' := 5) (r := [.inl v3]) dX4_beginsThere_2 rfl rfl rfl rfl hp1 rfl rfl (zr_214 (by omega) hp1 h) (zf_kI (fun x1 m2 h => ?_))
  refine zf_icmp_gt (tgt := 18) (pc' := 8) dX4_beginsThere_5 rfl rfl (fun g => ?_) (fun g => ?_)
  · replace h := h.1 g
    refine zf_ic (v := 0) (pc' := 19) dX4_beginsThere_18 rfl rfl ?_
    exact zf_rb (b := false) dX4_beginsThere_19 rfl h
  · replace h := h.2 g
    refine zf_ld (pc' := 9) (v := .inl v2) dX4_beginsThere_8 rfl (fun _ _ _ => rfl) rfl rfl rfl ?_
    refine zf_ld (pc' := 10) (v := .inl v3) dX4_beginsThere_9 rfl (fun _ _ _ => rfl) rfl rfl rfl ?_
    refine zf_in (pc' := 11) (S' := [.inl (v2 + v3)]) dX4_beginsThere_10 rfl (fun _ _ _ => rfl) ?_
    refine zf_ld (pc' := 12) (v := .inr (.inr (1, 35))) dX4_beginsThere_11 rfl (fun _ _ _ => rfl) rfl rfl rfl ?_
    refine zf_gfi (pc' := 15) dX4_beginsThere_12 rfl rfl (by decide) rfl rfl ?_
    refine zf_icmp_le (tgt := 20) (pc' := 18) dX4_beginsThere_15 rfl rfl (fun g => ?_) (fun g => ?_)
    · replace h := h.1 g
      refine zf_ic (v := 0) (pc' := 21) dX4_beginsThere_20 rfl rfl ?_
      refine zf_st (pc' := 23) (L2 := [some (.inr (.inr (1, 35))), some (.inr (.inr (2, t1))), some (.inl v2), some (.inl v3), some (.inl 0)]) dX4_beginsThere_21 rfl (fun _ _ _ => rfl) rfl rfl rfl rfl rfl rfl ?_
      obtain ⟨n23, h⟩ := h
      exact zf_lo (zq_37_23 (by omega) hp1 n23 _ _ h) ⟨rfl, rfl, rfl, rfl, rfl, trivial⟩
    · replace h := h.2 g
      refine zf_ic (v := 0) (pc' := 19) dX4_beginsThere_18 rfl rfl ?_
      exact zf_rb (b := false) dX4_beginsThere_19 rfl h
def zt_36 : zx_MT := (4, yX4_wordBeginning, cX4_wordBeginning, 4, (some FieldType.int), 2, 0)
theorem zm_36 : zx_m 36 = zt_36 := rfl
theorem dX4_wordBeginning_r0 : zdcP cX4_wordBeginning 0 [(.iconst 0, 1), (.istore_n 3, 1), (.iload_n 3, 1), (.bipush 12, 2), (.if_icmp .ge 24, 3), (.aload_n 0, 1), (.iload_n 3, 1), (.invokestatic 139, 3), (.iload_n 1, 1), (.iload_n 2, 1), (.invokevirtual 148, 3), (.ifCond .eq 5, 3), (.iload_n 3, 1), (.ireturn, 1), (.iinc 3 1, 3), (.goto (-24), 3)] := zdcA_ok (by decide +kernel)
theorem dX4_wordBeginning_0 : decode cX4_wordBeginning 0 = .ok (.iconst 0, 1) := dX4_wordBeginning_r0.1
theorem dX4_wordBeginning_1 : decode cX4_wordBeginning 1 = .ok (.istore_n 3, 1) := dX4_wordBeginning_r0.2.1
theorem dX4_wordBeginning_2 : decode cX4_wordBeginning 2 = .ok (.iload_n 3, 1) := dX4_wordBeginning_r0.2.2.1
theorem dX4_wordBeginning_3 : decode cX4_wordBeginning 3 = .ok (.bipush 12, 2) := dX4_wordBeginning_r0.2.2.2.1
theorem dX4_wordBeginning_5 : decode cX4_wordBeginning 5 = .ok (.if_icmp .ge 24, 3) := dX4_wordBeginning_r0.2.2.2.2.1
theorem dX4_wordBeginning_8 : decode cX4_wordBeginning 8 = .ok (.aload_n 0, 1) := dX4_wordBeginning_r0.2.2.2.2.2.1
theorem dX4_wordBeginning_9 : decode cX4_wordBeginning 9 = .ok (.iload_n 3, 1) := dX4_wordBeginning_r0.2.2.2.2.2.2.1
theorem dX4_wordBeginning_10 : decode cX4_wordBeginning 10 = .ok (.invokestatic 139, 3) := dX4_wordBeginning_r0.2.2.2.2.2.2.2.1
theorem dX4_wordBeginning_13 : decode cX4_wordBeginning 13 = .ok (.iload_n 1, 1) := dX4_wordBeginning_r0.2.2.2.2.2.2.2.2.1
theorem dX4_wordBeginning_14 : decode cX4_wordBeginning 14 = .ok (.iload_n 2, 1) := dX4_wordBeginning_r0.2.2.2.2.2.2.2.2.2.1
theorem dX4_wordBeginning_15 : decode cX4_wordBeginning 15 = .ok (.invokevirtual 148, 3) := dX4_wordBeginning_r0.2.2.2.2.2.2.2.2.2.2.1
theorem dX4_wordBeginning_18 : decode cX4_wordBeginning 18 = .ok (.ifCond .eq 5, 3) := dX4_wordBeginning_r0.2.2.2.2.2.2.2.2.2.2.2.1
theorem dX4_wordBeginning_21 : decode cX4_wordBeginning 21 = .ok (.iload_n 3, 1) := dX4_wordBeginning_r0.2.2.2.2.2.2.2.2.2.2.2.2.1
theorem dX4_wordBeginning_22 : decode cX4_wordBeginning 22 = .ok (.ireturn, 1) := dX4_wordBeginning_r0.2.2.2.2.2.2.2.2.2.2.2.2.2.1
theorem dX4_wordBeginning_23 : decode cX4_wordBeginning 23 = .ok (.iinc 3 1, 3) := dX4_wordBeginning_r0.2.2.2.2.2.2.2.2.2.2.2.2.2.2.1
theorem dX4_wordBeginning_26 : decode cX4_wordBeginning 26 = .ok (.goto (-24), 3) := dX4_wordBeginning_r0.2.2.2.2.2.2.2.2.2.2.2.2.2.2.2.1
theorem dX4_wordBeginning_r29 : zdcP cX4_wordBeginning 29 [(.iconst (-1), 1), (.ireturn, 1)] := zdcA_ok (by decide +kernel)
theorem dX4_wordBeginning_29 : decode cX4_wordBeginning 29 = .ok (.iconst (-1), 1) := dX4_wordBeginning_r29.1
theorem dX4_wordBeginning_30 : decode cX4_wordBeginning 30 = .ok (.ireturn, 1) := dX4_wordBeginning_r29.2.1
def wq_36_2 (v1 : Int32) (v2 : Int32) (Q : Int32 → zf_Me → Prop) : Nat → Int32 → zf_Me → Prop
  | 0, _, _ => False
  | n + 1, v3, m => ((v3.toInt ≥ 12 → Q (-1) m) ∧ (v3.toInt < 12 → wp_38 v3 m (fun t1 m2 => wp_37 t1 v1 v2 m2 (fun b3 m4 => ((b3 = false → wq_36_2 v1 v2 Q n (v3 + 1) m4) ∧ (b3 = true → Q v3 m4))))))
theorem zq_36_2 {d : Nat} (hd : 6 ≤ d) {v1 : Int32} {v2 : Int32} {Q : Int32 → zf_Me → Prop} : ∀ (n : Nat) (v3 : Int32) (m : zf_Me), wq_36_2 v1 v2 Q n v3 m → zf_W none 0 0 d zt_36 2 [some (.inr (.inr (1, 35))), some (.inl v1), some (.inl v2), some (.inl v3)] [] m (zf_I Q) := by
  obtain ⟨e, rfl⟩ : ∃ z, d = z + 1 := ⟨d - 1, by omega⟩
  intro n
  induction n with
  | zero =>
    intro v3 m h
    exact h.elim
  | succ n ih =>
    intro v3 m h
    unfold wq_36_2 at h
    refine zf_ld (pc' := 3) (v := .inl v3) dX4_wordBeginning_2 rfl (fun _ _ _ => rfl) rfl rfl rfl ?_
    refine zf_bi (v := 12) (pc' := 5) dX4_wordBeginning_3 rfl rfl ?_
    refine zf_icmp_ge (tgt := 29) (pc' := 8) dX4_wordBeginning_5 rfl rfl (fun g => ?_) (fun g => ?_)
    · replace h := h.1 g
      refine zf_ic (v := (-1)) (pc' := 30) dX4_wordBeginning_29 rfl rfl ?_
      exact zf_ri dX4_wordBeginning_30 rfl h
    · replace h := h.2 g
      refine zf_ld (pc' := 9) (v := .inr (.inr (1, 35))) dX4_wordBeginning_8 rfl (fun _ _ _ => rfl) rfl rfl rfl ?_
      refine zf_ld (pc' := 10) (v := .inl v3) dX4_wordBeginning_9 rfl (fun _ _ _ => rfl) rfl rfl rfl ?_
      refine zf_is (k := 38) (pc' := 13) (r := [.inr (.inr (1, 35))]) dX4_wordBeginning_10 rfl rfl rfl rfl rfl (zr_38 (by omega) h) (zf_kT (fun t1 m2 htt1 h => ?_))
      refine zf_ld (pc' := 14) (v := .inl v1) dX4_wordBeginning_13 rfl (fun _ _ _ => rfl) rfl rfl rfl ?_
      refine zf_ld (pc' := 15) (v := .inl v2) dX4_wordBeginning_14 rfl (fun _ _ _ => rfl) rfl rfl rfl ?_
      refine zf_iv (k := 37) (pc' := 18) (r := []) dX4_wordBeginning_15 rfl rfl rfl rfl (by decide) rfl rfl rfl (zr_37 (by omega) htt1 h) (zf_kB (fun b3 m4 h => ?_))
      refine zf_ib_eq (tgt := 23) (pc' := 21) dX4_wordBeginning_18 rfl rfl (fun g => ?_) (fun g => ?_)
      · replace h := h.1 g
        refine zf_ii (y := (v3 + 1)) (L2 := [some (.inr (.inr (1, 35))), some (.inl v1), some (.inl v2), some (.inl (v3 + 1))]) (pc' := 26) dX4_wordBeginning_23 rfl rfl rfl rfl rfl ?_
        refine zf_goto (tgt := 2) dX4_wordBeginning_26 rfl ?_
        exact zf_lo (ih _ _ h) ⟨rfl, rfl, rfl, rfl, trivial⟩
      · replace h := h.2 g
        refine zf_ld (pc' := 22) (v := .inl v3) dX4_wordBeginning_21 rfl (fun _ _ _ => rfl) rfl rfl rfl ?_
        exact zf_ri dX4_wordBeginning_22 rfl h
def wp_36 (v1 : Int32) (v2 : Int32) (m : zf_Me) (Q : Int32 → zf_Me → Prop) : Prop := (∃ n2, wq_36_2 v1 v2 Q n2 0 m)
theorem zr_36 {d : Nat} (hd : 6 ≤ d) {v1 : Int32} {v2 : Int32} {Q : Int32 → zf_Me → Prop} {m : zf_Me} (h : wp_36 v1 v2 m Q) : zf_M d 36 [.inr (.inr (1, 35)), .inl v1, .inl v2] m (zf_I Q) := by
  unfold wp_36 at h
  refine zf_M_of (Nat.le_of_ble_eq_true rfl) zm_36 (L := [some (.inr (.inr (1, 35))), some (.inl v1), some (.inl v2), none]) rfl ?_
  refine zf_ic (v := 0) (pc' := 1) dX4_wordBeginning_0 rfl rfl ?_
  refine zf_st (pc' := 2) (L2 := [some (.inr (.inr (1, 35))), some (.inl v1), some (.inl v2), some (.inl 0)]) dX4_wordBeginning_1 rfl (fun _ _ _ => rfl) rfl rfl rfl rfl rfl rfl ?_
  obtain ⟨n2, h⟩ := h
  exact zf_lo (zq_36_2 (by omega) n2 _ _ h) ⟨rfl, rfl, rfl, rfl, trivial⟩
def zt_35 : zx_MT := (4, yX4_readWord, cX4_readWord, 4, (some FieldType.int), 0, 0)
theorem zm_35 : zx_m 35 = zt_35 := rfl
theorem dX4_readWord_r0 : zdcP cX4_readWord 0 [(.aload_n 0, 1), (.getfield 31, 3), (.istore_n 1, 1), (.iconst 1, 1), (.istore_n 2, 1), (.iload_n 2, 1), (.bipush 8, 2), (.if_icmp .gt 54, 3), (.aload_n 0, 1), (.iload_n 1, 1), (.iload_n 2, 1), (.invokevirtual 136, 3), (.istore_n 3, 1), (.iload_n 3, 1), (.iconst (-1), 1), (.if_icmp .ne 13, 3)] := zdcA_ok (by decide +kernel)
theorem dX4_readWord_0 : decode cX4_readWord 0 = .ok (.aload_n 0, 1) := dX4_readWord_r0.1
theorem dX4_readWord_1 : decode cX4_readWord 1 = .ok (.getfield 31, 3) := dX4_readWord_r0.2.1
theorem dX4_readWord_4 : decode cX4_readWord 4 = .ok (.istore_n 1, 1) := dX4_readWord_r0.2.2.1
theorem dX4_readWord_5 : decode cX4_readWord 5 = .ok (.iconst 1, 1) := dX4_readWord_r0.2.2.2.1
theorem dX4_readWord_6 : decode cX4_readWord 6 = .ok (.istore_n 2, 1) := dX4_readWord_r0.2.2.2.2.1
theorem dX4_readWord_7 : decode cX4_readWord 7 = .ok (.iload_n 2, 1) := dX4_readWord_r0.2.2.2.2.2.1
theorem dX4_readWord_8 : decode cX4_readWord 8 = .ok (.bipush 8, 2) := dX4_readWord_r0.2.2.2.2.2.2.1
theorem dX4_readWord_10 : decode cX4_readWord 10 = .ok (.if_icmp .gt 54, 3) := dX4_readWord_r0.2.2.2.2.2.2.2.1
theorem dX4_readWord_13 : decode cX4_readWord 13 = .ok (.aload_n 0, 1) := dX4_readWord_r0.2.2.2.2.2.2.2.2.1
theorem dX4_readWord_14 : decode cX4_readWord 14 = .ok (.iload_n 1, 1) := dX4_readWord_r0.2.2.2.2.2.2.2.2.2.1
theorem dX4_readWord_15 : decode cX4_readWord 15 = .ok (.iload_n 2, 1) := dX4_readWord_r0.2.2.2.2.2.2.2.2.2.2.1
theorem dX4_readWord_16 : decode cX4_readWord 16 = .ok (.invokevirtual 136, 3) := dX4_readWord_r0.2.2.2.2.2.2.2.2.2.2.2.1
theorem dX4_readWord_19 : decode cX4_readWord 19 = .ok (.istore_n 3, 1) := dX4_readWord_r0.2.2.2.2.2.2.2.2.2.2.2.2.1
theorem dX4_readWord_20 : decode cX4_readWord 20 = .ok (.iload_n 3, 1) := dX4_readWord_r0.2.2.2.2.2.2.2.2.2.2.2.2.2.1
theorem dX4_readWord_21 : decode cX4_readWord 21 = .ok (.iconst (-1), 1) := dX4_readWord_r0.2.2.2.2.2.2.2.2.2.2.2.2.2.2.1
theorem dX4_readWord_22 : decode cX4_readWord 22 = .ok (.if_icmp .ne 13, 3) := dX4_readWord_r0.2.2.2.2.2.2.2.2.2.2.2.2.2.2.2.1
theorem dX4_readWord_r25 : zdcP cX4_readWord 25 [(.aload_n 0, 1), (.aload_n 0, 1), (.getfield 31, 3), (.putfield 40, 3), (.iconst (-1), 1), (.ireturn, 1), (.aload_n 0, 1), (.dup, 1), (.getfield 31, 3), (.iconst 1, 1), (.iadd, 1), (.putfield 31, 3), (.iload_n 3, 1), (.invokestatic 139, 3), (.invokevirtual 143, 3), (.iload_n 2, 1)] := zdcA_ok (by decide +kernel)
theorem dX4_readWord_25 : decode cX4_readWord 25 = .ok (.aload_n 0, 1) := dX4_readWord_r25.1
theorem dX4_readWord_26 : decode cX4_readWord 26 = .ok (.aload_n 0, 1) := dX4_readWord_r25.2.1
theorem dX4_readWord_27 : decode cX4_readWord 27 = .ok (.getfield 31, 3) := dX4_readWord_r25.2.2.1
theorem dX4_readWord_30 : decode cX4_readWord 30 = .ok (.putfield 40, 3) := dX4_readWord_r25.2.2.2.1
theorem dX4_readWord_33 : decode cX4_readWord 33 = .ok (.iconst (-1), 1) := dX4_readWord_r25.2.2.2.2.1
theorem dX4_readWord_34 : decode cX4_readWord 34 = .ok (.ireturn, 1) := dX4_readWord_r25.2.2.2.2.2.1
theorem dX4_readWord_35 : decode cX4_readWord 35 = .ok (.aload_n 0, 1) := dX4_readWord_r25.2.2.2.2.2.2.1
theorem dX4_readWord_36 : decode cX4_readWord 36 = .ok (.dup, 1) := dX4_readWord_r25.2.2.2.2.2.2.2.1
theorem dX4_readWord_37 : decode cX4_readWord 37 = .ok (.getfield 31, 3) := dX4_readWord_r25.2.2.2.2.2.2.2.2.1
theorem dX4_readWord_40 : decode cX4_readWord 40 = .ok (.iconst 1, 1) := dX4_readWord_r25.2.2.2.2.2.2.2.2.2.1
theorem dX4_readWord_41 : decode cX4_readWord 41 = .ok (.iadd, 1) := dX4_readWord_r25.2.2.2.2.2.2.2.2.2.2.1
theorem dX4_readWord_42 : decode cX4_readWord 42 = .ok (.putfield 31, 3) := dX4_readWord_r25.2.2.2.2.2.2.2.2.2.2.2.1
theorem dX4_readWord_45 : decode cX4_readWord 45 = .ok (.iload_n 3, 1) := dX4_readWord_r25.2.2.2.2.2.2.2.2.2.2.2.2.1
theorem dX4_readWord_46 : decode cX4_readWord 46 = .ok (.invokestatic 139, 3) := dX4_readWord_r25.2.2.2.2.2.2.2.2.2.2.2.2.2.1
theorem dX4_readWord_49 : decode cX4_readWord 49 = .ok (.invokevirtual 143, 3) := dX4_readWord_r25.2.2.2.2.2.2.2.2.2.2.2.2.2.2.1
theorem dX4_readWord_52 : decode cX4_readWord 52 = .ok (.iload_n 2, 1) := dX4_readWord_r25.2.2.2.2.2.2.2.2.2.2.2.2.2.2.2.1
theorem dX4_readWord_r53 : zdcP cX4_readWord 53 [(.if_icmp .ne 5, 3), (.iload_n 3, 1), (.ireturn, 1), (.iinc 2 1, 3), (.goto (-54), 3), (.iconst (-1), 1), (.ireturn, 1)] := zdcA_ok (by decide +kernel)
theorem dX4_readWord_53 : decode cX4_readWord 53 = .ok (.if_icmp .ne 5, 3) := dX4_readWord_r53.1
theorem dX4_readWord_56 : decode cX4_readWord 56 = .ok (.iload_n 3, 1) := dX4_readWord_r53.2.1
theorem dX4_readWord_57 : decode cX4_readWord 57 = .ok (.ireturn, 1) := dX4_readWord_r53.2.2.1
theorem dX4_readWord_58 : decode cX4_readWord 58 = .ok (.iinc 2 1, 3) := dX4_readWord_r53.2.2.2.1
theorem dX4_readWord_61 : decode cX4_readWord 61 = .ok (.goto (-54), 3) := dX4_readWord_r53.2.2.2.2.1
theorem dX4_readWord_64 : decode cX4_readWord 64 = .ok (.iconst (-1), 1) := dX4_readWord_r53.2.2.2.2.2.1
theorem dX4_readWord_65 : decode cX4_readWord 65 = .ok (.ireturn, 1) := dX4_readWord_r53.2.2.2.2.2.2.1
def wq_35_7 (Q : Int32 → zf_Me → Prop) : Nat → Int32 → Int32 → zf_Me → Prop
  | 0, _, _, _ => False
  | n + 1, v1, v2, m => ((v2.toInt > 8 → Q (-1) m) ∧ (v2.toInt ≤ 8 → wp_36 v1 v2 m (fun x1 m2 => ((¬ x1.toInt = (-1) → (∀ m3, m3 = zf_u m2 35 3 ((m2.1 35 3) + 1) → wp_38 x1 m3 (fun t5 m6 => wp_214 t5 m6 (fun x7 m8 => ((¬ x7.toInt = v2.toInt → wq_35_7 Q n v1 (v2 + 1) m8) ∧ (x7.toInt = v2.toInt → Q x1 m8)))))) ∧ (x1.toInt = (-1) → (∀ m9, m9 = zf_u m2 35 6 (m2.1 35 3) → Q (-1) m9))))))
theorem zq_35_7 {d : Nat} (hd : 7 ≤ d) {Q : Int32 → zf_Me → Prop} : ∀ (n : Nat) (v1 : Int32) (v2 : Int32) (m : zf_Me), wq_35_7 Q n v1 v2 m → zf_W none 0 0 d zt_35 7 [some (.inr (.inr (1, 35))), some (.inl v1), some (.inl v2), none] [] m (zf_I Q) := by
  obtain ⟨e, rfl⟩ : ∃ z, d = z + 1 := ⟨d - 1, by omega⟩
  intro n
  induction n with
  | zero =>
    intro v1 v2 m h
    exact h.elim
  | succ n ih =>
    intro v1 v2 m h
    unfold wq_35_7 at h
    refine zf_ld (pc' := 8) (v := .inl v2) dX4_readWord_7 rfl (fun _ _ _ => rfl) rfl rfl rfl ?_
    refine zf_bi (v := 8) (pc' := 10) dX4_readWord_8 rfl rfl ?_
    refine zf_icmp_gt (tgt := 64) (pc' := 13) dX4_readWord_10 rfl rfl (fun g => ?_) (fun g => ?_)
    · replace h := h.1 g
      refine zf_ic (v := (-1)) (pc' := 65) dX4_readWord_64 rfl rfl ?_
      exact zf_ri dX4_readWord_65 rfl h
    · replace h := h.2 g
      refine zf_ld (pc' := 14) (v := .inr (.inr (1, 35))) dX4_readWord_13 rfl (fun _ _ _ => rfl) rfl rfl rfl ?_
      refine zf_ld (pc' := 15) (v := .inl v1) dX4_readWord_14 rfl (fun _ _ _ => rfl) rfl rfl rfl ?_
      refine zf_ld (pc' := 16) (v := .inl v2) dX4_readWord_15 rfl (fun _ _ _ => rfl) rfl rfl rfl ?_
      refine zf_iv (k := 36) (pc' := 19) (r := []) dX4_readWord_16 rfl rfl rfl rfl (by decide) rfl rfl rfl (zr_36 (by omega) h) (zf_kI (fun x1 m2 h => ?_))
      refine zf_st (pc' := 20) (L2 := [some (.inr (.inr (1, 35))), some (.inl v1), some (.inl v2), some (.inl x1)]) dX4_readWord_19 rfl (fun _ _ _ => rfl) rfl rfl rfl rfl rfl rfl ?_
      refine zf_ld (pc' := 21) (v := .inl x1) dX4_readWord_20 rfl (fun _ _ _ => rfl) rfl rfl rfl ?_
      refine zf_ic (v := (-1)) (pc' := 22) dX4_readWord_21 rfl rfl ?_
      refine zf_icmp_ne (tgt := 35) (pc' := 25) dX4_readWord_22 rfl rfl (fun g => ?_) (fun g => ?_)
      · replace h := h.1 g
        refine zf_ld (pc' := 36) (v := .inr (.inr (1, 35))) dX4_readWord_35 rfl (fun _ _ _ => rfl) rfl rfl rfl ?_
        refine zf_in (pc' := 37) (S' := [.inr (.inr (1, 35)), .inr (.inr (1, 35))]) dX4_readWord_36 rfl (fun _ _ _ => rfl) ?_
        refine zf_gfi (pc' := 40) dX4_readWord_37 rfl rfl (by decide) rfl rfl ?_
        refine zf_ic (v := 1) (pc' := 41) dX4_readWord_40 rfl rfl ?_
        refine zf_in (pc' := 42) (S' := [.inl ((m2.1 35 3) + 1), .inr (.inr (1, 35))]) dX4_readWord_41 rfl (fun _ _ _ => rfl) ?_
        refine zf_pf (pc' := 45) dX4_readWord_42 rfl rfl (by decide) rfl rfl rfl (fun m3 e4 => ?_)
        replace h := h m3 e4
        refine zf_ld (pc' := 46) (v := .inl x1) dX4_readWord_45 rfl (fun _ _ _ => rfl) rfl rfl rfl ?_
        refine zf_is (k := 38) (pc' := 49) (r := []) dX4_readWord_46 rfl rfl rfl rfl rfl (zr_38 (by omega) h) (zf_kT (fun t5 m6 htt5 h => ?_))
        refine zf_iv2 (k := 214) (pc' := 52) (r := []) dX4_readWord_49 rfl rfl rfl rfl htt5 rfl rfl (zr_214 (by omega) htt5 h) (zf_kI (fun x7 m8 h => ?_))
        refine zf_ld (pc' := 53) (v := .inl v2) dX4_readWord_52 rfl (fun _ _ _ => rfl) rfl rfl rfl ?_
        refine zf_icmp_ne (tgt := 58) (pc' := 56) dX4_readWord_53 rfl rfl (fun g => ?_) (fun g => ?_)
        · replace h := h.1 g
          refine zf_ii (y := (v2 + 1)) (L2 := [some (.inr (.inr (1, 35))), some (.inl v1), some (.inl (v2 + 1)), some (.inl x1)]) (pc' := 61) dX4_readWord_58 rfl rfl rfl rfl rfl ?_
          refine zf_goto (tgt := 7) dX4_readWord_61 rfl ?_
          exact zf_lo (ih _ _ _ h) ⟨rfl, rfl, rfl, trivial⟩
        · replace h := h.2 g
          refine zf_ld (pc' := 57) (v := .inl x1) dX4_readWord_56 rfl (fun _ _ _ => rfl) rfl rfl rfl ?_
          exact zf_ri dX4_readWord_57 rfl h
      · replace h := h.2 g
        refine zf_ld (pc' := 26) (v := .inr (.inr (1, 35))) dX4_readWord_25 rfl (fun _ _ _ => rfl) rfl rfl rfl ?_
        refine zf_ld (pc' := 27) (v := .inr (.inr (1, 35))) dX4_readWord_26 rfl (fun _ _ _ => rfl) rfl rfl rfl ?_
        refine zf_gfi (pc' := 30) dX4_readWord_27 rfl rfl (by decide) rfl rfl ?_
        refine zf_pf (pc' := 33) dX4_readWord_30 rfl rfl (by decide) rfl rfl rfl (fun m9 e10 => ?_)
        replace h := h m9 e10
        refine zf_ic (v := (-1)) (pc' := 34) dX4_readWord_33 rfl rfl ?_
        exact zf_ri dX4_readWord_34 rfl h
def wp_35 (m : zf_Me) (Q : Int32 → zf_Me → Prop) : Prop := (∃ n7, wq_35_7 Q n7 (m.1 35 3) 1 m)
theorem zr_35 {d : Nat} (hd : 7 ≤ d) {Q : Int32 → zf_Me → Prop} {m : zf_Me} (h : wp_35 m Q) : zf_M d 35 [.inr (.inr (1, 35))] m (zf_I Q) := by
  unfold wp_35 at h
  refine zf_M_of (Nat.le_of_ble_eq_true rfl) zm_35 (L := [some (.inr (.inr (1, 35))), none, none, none]) rfl ?_
  refine zf_ld (pc' := 1) (v := .inr (.inr (1, 35))) dX4_readWord_0 rfl (fun _ _ _ => rfl) rfl rfl rfl ?_
  refine zf_gfi (pc' := 4) dX4_readWord_1 rfl rfl (by decide) rfl rfl ?_
  refine zf_st (pc' := 5) (L2 := [some (.inr (.inr (1, 35))), some (.inl (m.1 35 3)), none, none]) dX4_readWord_4 rfl (fun _ _ _ => rfl) rfl rfl rfl rfl rfl rfl ?_
  refine zf_ic (v := 1) (pc' := 6) dX4_readWord_5 rfl rfl ?_
  refine zf_st (pc' := 7) (L2 := [some (.inr (.inr (1, 35))), some (.inl (m.1 35 3)), some (.inl 1), none]) dX4_readWord_6 rfl (fun _ _ _ => rfl) rfl rfl rfl rfl rfl rfl ?_
  obtain ⟨n7, h⟩ := h
  exact zf_lo (zq_35_7 (by omega) n7 _ _ _ h) ⟨rfl, rfl, rfl, trivial⟩
